section
/-- a private method of a class that the tables say can be made, by its rows of tables_1 -/
def lw_okq (q : MethodName × Nat) : Prop := (q.1.cls ≠ "java/lang/invoke/MethodHandle" ∧ q.1.cls ≠ "java/lang/invoke/VarHandle") ∧ Cond.instantiable q.1.cls q.2 ∈ tables_1 ∧ Cond.privateMethod q.1 ∈ tables_1 ∧ Cond.instanceMethod q.1 ∈ tables_1
theorem lw_p0 : lw_okq (⟨"ReachedHeap$History", "stateAt", "(I)LReachedHeap$State;"⟩, 3) := ⟨⟨by decide +kernel, by decide +kernel⟩, List.mem_of_getElem? (i := 148) (by decide +kernel), List.mem_of_getElem? (i := 238) (by decide +kernel), List.mem_of_getElem? (i := 239) (by decide +kernel)⟩
theorem lw_p1 : lw_okq (⟨"ReachedHeap$State", "referRoot", "(II)V"⟩, 6) := ⟨⟨by decide +kernel, by decide +kernel⟩, List.mem_of_getElem? (i := 22) (by decide +kernel), List.mem_of_getElem? (i := 297) (by decide +kernel), List.mem_of_getElem? (i := 298) (by decide +kernel)⟩
theorem lw_p2 : lw_okq (⟨"ReachedHeap$State", "takeCare", "(ZII)V"⟩, 6) := ⟨⟨by decide +kernel, by decide +kernel⟩, List.mem_of_getElem? (i := 22) (by decide +kernel), List.mem_of_getElem? (i := 301) (by decide +kernel), List.mem_of_getElem? (i := 302) (by decide +kernel)⟩
theorem lw_p3 : lw_okq (⟨"ReachedHeap$State", "shadeIfCareIsNeeded", "(I)V"⟩, 6) := ⟨⟨by decide +kernel, by decide +kernel⟩, List.mem_of_getElem? (i := 22) (by decide +kernel), List.mem_of_getElem? (i := 405) (by decide +kernel), List.mem_of_getElem? (i := 406) (by decide +kernel)⟩
theorem lw_p4 : lw_okq (⟨"ReachedHeap$Search", "sweep", "(LReachedHeap$Graph;)V"⟩, 9) := ⟨⟨by decide +kernel, by decide +kernel⟩, List.mem_of_getElem? (i := 81) (by decide +kernel), List.mem_of_getElem? (i := 470) (by decide +kernel), List.mem_of_getElem? (i := 471) (by decide +kernel)⟩
theorem lw_p5 : lw_okq (⟨"ReachedHeap$Search", "markFirst", "(LReachedHeap$Graph;)V"⟩, 9) := ⟨⟨by decide +kernel, by decide +kernel⟩, List.mem_of_getElem? (i := 81) (by decide +kernel), List.mem_of_getElem? (i := 487) (by decide +kernel), List.mem_of_getElem? (i := 488) (by decide +kernel)⟩
theorem lw_p6 : lw_okq (⟨"ReachedHeap$Search", "findToFinish", "(LReachedHeap$Graph;)V"⟩, 9) := ⟨⟨by decide +kernel, by decide +kernel⟩, List.mem_of_getElem? (i := 81) (by decide +kernel), List.mem_of_getElem? (i := 497) (by decide +kernel), List.mem_of_getElem? (i := 498) (by decide +kernel)⟩
theorem lw_p7 : lw_okq (⟨"ReachedHeap$Commands", "readCommand", "()Z"⟩, 11) := ⟨⟨by decide +kernel, by decide +kernel⟩, List.mem_of_getElem? (i := 168) (by decide +kernel), List.mem_of_getElem? (i := 646) (by decide +kernel), List.mem_of_getElem? (i := 647) (by decide +kernel)⟩
theorem lw_p8 : lw_okq (⟨"ReachedHeap$Commands", "signAt", "(I)I"⟩, 11) := ⟨⟨by decide +kernel, by decide +kernel⟩, List.mem_of_getElem? (i := 168) (by decide +kernel), List.mem_of_getElem? (i := 650) (by decide +kernel), List.mem_of_getElem? (i := 651) (by decide +kernel)⟩
theorem lw_p9 : lw_okq (⟨"ReachedHeap$Commands", "read", "(I)Z"⟩, 11) := ⟨⟨by decide +kernel, by decide +kernel⟩, List.mem_of_getElem? (i := 168) (by decide +kernel), List.mem_of_getElem? (i := 654) (by decide +kernel), List.mem_of_getElem? (i := 655) (by decide +kernel)⟩
theorem lw_p10 : lw_okq (⟨"ReachedHeap$Commands", "readNumber", "()I"⟩, 11) := ⟨⟨by decide +kernel, by decide +kernel⟩, List.mem_of_getElem? (i := 168) (by decide +kernel), List.mem_of_getElem? (i := 658) (by decide +kernel), List.mem_of_getElem? (i := 659) (by decide +kernel)⟩
theorem lw_p11 : lw_okq (⟨"ReachedHeap$Commands", "readTarget", "()I"⟩, 11) := ⟨⟨by decide +kernel, by decide +kernel⟩, List.mem_of_getElem? (i := 168) (by decide +kernel), List.mem_of_getElem? (i := 665) (by decide +kernel), List.mem_of_getElem? (i := 666) (by decide +kernel)⟩
theorem lw_p12 : lw_okq (⟨"ReachedHeapModel", "lowestFree", "()I"⟩, 15) := ⟨⟨by decide +kernel, by decide +kernel⟩, List.mem_of_getElem? (i := 683) (by decide +kernel), List.mem_of_getElem? (i := 745) (by decide +kernel), List.mem_of_getElem? (i := 746) (by decide +kernel)⟩
theorem lw_p13 : lw_okq (⟨"ReachedHeapModel", "of", "(II)I"⟩, 15) := ⟨⟨by decide +kernel, by decide +kernel⟩, List.mem_of_getElem? (i := 683) (by decide +kernel), List.mem_of_getElem? (i := 749) (by decide +kernel), List.mem_of_getElem? (i := 750) (by decide +kernel)⟩
theorem lw_p14 : lw_okq (⟨"ReachedHeapModel", "changes", "()V"⟩, 15) := ⟨⟨by decide +kernel, by decide +kernel⟩, List.mem_of_getElem? (i := 683) (by decide +kernel), List.mem_of_getElem? (i := 753) (by decide +kernel), List.mem_of_getElem? (i := 754) (by decide +kernel)⟩
theorem lw_p15 : lw_okq (⟨"ReachedHeapModel", "sets", "(III)V"⟩, 15) := ⟨⟨by decide +kernel, by decide +kernel⟩, List.mem_of_getElem? (i := 683) (by decide +kernel), List.mem_of_getElem? (i := 757) (by decide +kernel), List.mem_of_getElem? (i := 758) (by decide +kernel)⟩
def lw_privs_1 : List (MethodName × Nat) := [(⟨"ReachedHeap$History", "stateAt", "(I)LReachedHeap$State;"⟩, 3), (⟨"ReachedHeap$State", "referRoot", "(II)V"⟩, 6), (⟨"ReachedHeap$State", "takeCare", "(ZII)V"⟩, 6), (⟨"ReachedHeap$State", "shadeIfCareIsNeeded", "(I)V"⟩, 6), (⟨"ReachedHeap$Search", "sweep", "(LReachedHeap$Graph;)V"⟩, 9), (⟨"ReachedHeap$Search", "markFirst", "(LReachedHeap$Graph;)V"⟩, 9), (⟨"ReachedHeap$Search", "findToFinish", "(LReachedHeap$Graph;)V"⟩, 9), (⟨"ReachedHeap$Commands", "readCommand", "()Z"⟩, 11), (⟨"ReachedHeap$Commands", "signAt", "(I)I"⟩, 11), (⟨"ReachedHeap$Commands", "read", "(I)Z"⟩, 11), (⟨"ReachedHeap$Commands", "readNumber", "()I"⟩, 11), (⟨"ReachedHeap$Commands", "readTarget", "()I"⟩, 11), (⟨"ReachedHeapModel", "lowestFree", "()I"⟩, 15), (⟨"ReachedHeapModel", "of", "(II)I"⟩, 15), (⟨"ReachedHeapModel", "changes", "()V"⟩, 15), (⟨"ReachedHeapModel", "sets", "(III)V"⟩, 15)]
theorem lw_r1 : ∀ q ∈ lw_privs_1, lw_okq q := List.forall_mem_cons.mpr ⟨lw_p0, List.forall_mem_cons.mpr ⟨lw_p1, List.forall_mem_cons.mpr ⟨lw_p2, List.forall_mem_cons.mpr ⟨lw_p3, List.forall_mem_cons.mpr ⟨lw_p4, List.forall_mem_cons.mpr ⟨lw_p5, List.forall_mem_cons.mpr ⟨lw_p6, List.forall_mem_cons.mpr ⟨lw_p7, List.forall_mem_cons.mpr ⟨lw_p8, List.forall_mem_cons.mpr ⟨lw_p9, List.forall_mem_cons.mpr ⟨lw_p10, List.forall_mem_cons.mpr ⟨lw_p11, List.forall_mem_cons.mpr ⟨lw_p12, List.forall_mem_cons.mpr ⟨lw_p13, List.forall_mem_cons.mpr ⟨lw_p14, List.forall_mem_cons.mpr ⟨lw_p15, fun _ h => absurd h List.not_mem_nil⟩⟩⟩⟩⟩⟩⟩⟩⟩⟩⟩⟩⟩⟩⟩⟩
theorem lw_p16 : lw_okq (⟨"ReachedHeapModel", "isMarking", "()Z"⟩, 15) := ⟨⟨by decide +kernel, by decide +kernel⟩, List.mem_of_getElem? (i := 683) (by decide +kernel), List.mem_of_getElem? (i := 761) (by decide +kernel), List.mem_of_getElem? (i := 762) (by decide +kernel)⟩
theorem lw_p17 : lw_okq (⟨"ReachedHeapModel", "writesRoot", "(II)I"⟩, 15) := ⟨⟨by decide +kernel, by decide +kernel⟩, List.mem_of_getElem? (i := 683) (by decide +kernel), List.mem_of_getElem? (i := 765) (by decide +kernel), List.mem_of_getElem? (i := 766) (by decide +kernel)⟩
theorem lw_p18 : lw_okq (⟨"ReachedHeapModel", "cares", "(IIZ)V"⟩, 15) := ⟨⟨by decide +kernel, by decide +kernel⟩, List.mem_of_getElem? (i := 683) (by decide +kernel), List.mem_of_getElem? (i := 769) (by decide +kernel), List.mem_of_getElem? (i := 770) (by decide +kernel)⟩
theorem lw_p19 : lw_okq (⟨"ReachedHeapModel", "shades", "(I)V"⟩, 15) := ⟨⟨by decide +kernel, by decide +kernel⟩, List.mem_of_getElem? (i := 683) (by decide +kernel), List.mem_of_getElem? (i := 773) (by decide +kernel), List.mem_of_getElem? (i := 774) (by decide +kernel)⟩
theorem lw_p20 : lw_okq (⟨"ReachedHeapModel", "isObject", "(I)Z"⟩, 15) := ⟨⟨by decide +kernel, by decide +kernel⟩, List.mem_of_getElem? (i := 683) (by decide +kernel), List.mem_of_getElem? (i := 781) (by decide +kernel), List.mem_of_getElem? (i := 782) (by decide +kernel)⟩
theorem lw_p21 : lw_okq (⟨"ReachedHeapModel", "isReached", "(I)Z"⟩, 15) := ⟨⟨by decide +kernel, by decide +kernel⟩, List.mem_of_getElem? (i := 683) (by decide +kernel), List.mem_of_getElem? (i := 785) (by decide +kernel), List.mem_of_getElem? (i := 786) (by decide +kernel)⟩
theorem lw_p22 : lw_okq (⟨"ReachedHeapModel", "reached", "()I"⟩, 15) := ⟨⟨by decide +kernel, by decide +kernel⟩, List.mem_of_getElem? (i := 683) (by decide +kernel), List.mem_of_getElem? (i := 789) (by decide +kernel), List.mem_of_getElem? (i := 790) (by decide +kernel)⟩
theorem lw_p23 : lw_okq (⟨"ReachedHeapModel", "rooted", "(I)I"⟩, 15) := ⟨⟨by decide +kernel, by decide +kernel⟩, List.mem_of_getElem? (i := 683) (by decide +kernel), List.mem_of_getElem? (i := 793) (by decide +kernel), List.mem_of_getElem? (i := 794) (by decide +kernel)⟩
theorem lw_p24 : lw_okq (⟨"ReachedHeapModel", "spreads", "(II)I"⟩, 15) := ⟨⟨by decide +kernel, by decide +kernel⟩, List.mem_of_getElem? (i := 683) (by decide +kernel), List.mem_of_getElem? (i := 797) (by decide +kernel), List.mem_of_getElem? (i := 798) (by decide +kernel)⟩
theorem lw_p25 : lw_okq (⟨"ReachedHeapModel", "wanting", "()I"⟩, 15) := ⟨⟨by decide +kernel, by decide +kernel⟩, List.mem_of_getElem? (i := 683) (by decide +kernel), List.mem_of_getElem? (i := 817) (by decide +kernel), List.mem_of_getElem? (i := 818) (by decide +kernel)⟩
theorem lw_p26 : lw_okq (⟨"ReachedHeapModel", "takes", "(I)I"⟩, 15) := ⟨⟨by decide +kernel, by decide +kernel⟩, List.mem_of_getElem? (i := 683) (by decide +kernel), List.mem_of_getElem? (i := 825) (by decide +kernel), List.mem_of_getElem? (i := 826) (by decide +kernel)⟩
theorem lw_p27 : lw_okq (⟨"ReachedHeapModel", "begins", "()V"⟩, 15) := ⟨⟨by decide +kernel, by decide +kernel⟩, List.mem_of_getElem? (i := 683) (by decide +kernel), List.mem_of_getElem? (i := 833) (by decide +kernel), List.mem_of_getElem? (i := 834) (by decide +kernel)⟩
theorem lw_p28 : lw_okq (⟨"ReachedHeapModel", "steps", "()V"⟩, 15) := ⟨⟨by decide +kernel, by decide +kernel⟩, List.mem_of_getElem? (i := 683) (by decide +kernel), List.mem_of_getElem? (i := 841) (by decide +kernel), List.mem_of_getElem? (i := 842) (by decide +kernel)⟩
theorem lw_p29 : lw_okq (⟨"ReachedHeapModel", "sweeps", "()V"⟩, 15) := ⟨⟨by decide +kernel, by decide +kernel⟩, List.mem_of_getElem? (i := 683) (by decide +kernel), List.mem_of_getElem? (i := 845) (by decide +kernel), List.mem_of_getElem? (i := 846) (by decide +kernel)⟩
theorem lw_p30 : lw_okq (⟨"ReachedHeapModel", "letsGo", "(I)V"⟩, 15) := ⟨⟨by decide +kernel, by decide +kernel⟩, List.mem_of_getElem? (i := 683) (by decide +kernel), List.mem_of_getElem? (i := 849) (by decide +kernel), List.mem_of_getElem? (i := 850) (by decide +kernel)⟩
theorem lw_p31 : lw_okq (⟨"ReachedHeapModel", "blackens", "()V"⟩, 15) := ⟨⟨by decide +kernel, by decide +kernel⟩, List.mem_of_getElem? (i := 683) (by decide +kernel), List.mem_of_getElem? (i := 853) (by decide +kernel), List.mem_of_getElem? (i := 854) (by decide +kernel)⟩
def lw_privs_2 : List (MethodName × Nat) := [(⟨"ReachedHeapModel", "isMarking", "()Z"⟩, 15), (⟨"ReachedHeapModel", "writesRoot", "(II)I"⟩, 15), (⟨"ReachedHeapModel", "cares", "(IIZ)V"⟩, 15), (⟨"ReachedHeapModel", "shades", "(I)V"⟩, 15), (⟨"ReachedHeapModel", "isObject", "(I)Z"⟩, 15), (⟨"ReachedHeapModel", "isReached", "(I)Z"⟩, 15), (⟨"ReachedHeapModel", "reached", "()I"⟩, 15), (⟨"ReachedHeapModel", "rooted", "(I)I"⟩, 15), (⟨"ReachedHeapModel", "spreads", "(II)I"⟩, 15), (⟨"ReachedHeapModel", "wanting", "()I"⟩, 15), (⟨"ReachedHeapModel", "takes", "(I)I"⟩, 15), (⟨"ReachedHeapModel", "begins", "()V"⟩, 15), (⟨"ReachedHeapModel", "steps", "()V"⟩, 15), (⟨"ReachedHeapModel", "sweeps", "()V"⟩, 15), (⟨"ReachedHeapModel", "letsGo", "(I)V"⟩, 15), (⟨"ReachedHeapModel", "blackens", "()V"⟩, 15)]
theorem lw_r2 : ∀ q ∈ lw_privs_2, lw_okq q := List.forall_mem_cons.mpr ⟨lw_p16, List.forall_mem_cons.mpr ⟨lw_p17, List.forall_mem_cons.mpr ⟨lw_p18, List.forall_mem_cons.mpr ⟨lw_p19, List.forall_mem_cons.mpr ⟨lw_p20, List.forall_mem_cons.mpr ⟨lw_p21, List.forall_mem_cons.mpr ⟨lw_p22, List.forall_mem_cons.mpr ⟨lw_p23, List.forall_mem_cons.mpr ⟨lw_p24, List.forall_mem_cons.mpr ⟨lw_p25, List.forall_mem_cons.mpr ⟨lw_p26, List.forall_mem_cons.mpr ⟨lw_p27, List.forall_mem_cons.mpr ⟨lw_p28, List.forall_mem_cons.mpr ⟨lw_p29, List.forall_mem_cons.mpr ⟨lw_p30, List.forall_mem_cons.mpr ⟨lw_p31, fun _ h => absurd h List.not_mem_nil⟩⟩⟩⟩⟩⟩⟩⟩⟩⟩⟩⟩⟩⟩⟩⟩
theorem lw_p32 : lw_okq (⟨"ReachedHeapModel", "clears", "()V"⟩, 15) := ⟨⟨by decide +kernel, by decide +kernel⟩, List.mem_of_getElem? (i := 683) (by decide +kernel), List.mem_of_getElem? (i := 857) (by decide +kernel), List.mem_of_getElem? (i := 858) (by decide +kernel)⟩
theorem lw_p33 : lw_okq (⟨"ReachedHeapModel", "looksForFinish", "()V"⟩, 15) := ⟨⟨by decide +kernel, by decide +kernel⟩, List.mem_of_getElem? (i := 683) (by decide +kernel), List.mem_of_getElem? (i := 861) (by decide +kernel), List.mem_of_getElem? (i := 862) (by decide +kernel)⟩
theorem lw_p34 : lw_okq (⟨"ReachedHeapModel", "doesAll", "()I"⟩, 15) := ⟨⟨by decide +kernel, by decide +kernel⟩, List.mem_of_getElem? (i := 683) (by decide +kernel), List.mem_of_getElem? (i := 869) (by decide +kernel), List.mem_of_getElem? (i := 870) (by decide +kernel)⟩
theorem lw_p35 : lw_okq (⟨"ReachedHeapModel", "placeIn", "(I)I"⟩, 15) := ⟨⟨by decide +kernel, by decide +kernel⟩, List.mem_of_getElem? (i := 683) (by decide +kernel), List.mem_of_getElem? (i := 881) (by decide +kernel), List.mem_of_getElem? (i := 882) (by decide +kernel)⟩
theorem lw_p36 : lw_okq (⟨"ReachedHeapModel", "those", "(II)I"⟩, 15) := ⟨⟨by decide +kernel, by decide +kernel⟩, List.mem_of_getElem? (i := 683) (by decide +kernel), List.mem_of_getElem? (i := 897) (by decide +kernel), List.mem_of_getElem? (i := 898) (by decide +kernel)⟩
theorem lw_p37 : lw_okq (⟨"ReachedHeapModel", "plays", "()I"⟩, 15) := ⟨⟨by decide +kernel, by decide +kernel⟩, List.mem_of_getElem? (i := 683) (by decide +kernel), List.mem_of_getElem? (i := 952) (by decide +kernel), List.mem_of_getElem? (i := 953) (by decide +kernel)⟩
theorem lw_p38 : lw_okq (⟨"ReachedHeapModel", "reads", "()Z"⟩, 15) := ⟨⟨by decide +kernel, by decide +kernel⟩, List.mem_of_getElem? (i := 683) (by decide +kernel), List.mem_of_getElem? (i := 956) (by decide +kernel), List.mem_of_getElem? (i := 957) (by decide +kernel)⟩
theorem lw_p39 : lw_okq (⟨"ReachedHeapModel", "sign", "(I)Z"⟩, 15) := ⟨⟨by decide +kernel, by decide +kernel⟩, List.mem_of_getElem? (i := 683) (by decide +kernel), List.mem_of_getElem? (i := 960) (by decide +kernel), List.mem_of_getElem? (i := 961) (by decide +kernel)⟩
theorem lw_p40 : lw_okq (⟨"ReachedHeapModel", "isAt", "(II)Z"⟩, 15) := ⟨⟨by decide +kernel, by decide +kernel⟩, List.mem_of_getElem? (i := 683) (by decide +kernel), List.mem_of_getElem? (i := 964) (by decide +kernel), List.mem_of_getElem? (i := 965) (by decide +kernel)⟩
theorem lw_p41 : lw_okq (⟨"ReachedHeapModel", "number", "(I)Z"⟩, 15) := ⟨⟨by decide +kernel, by decide +kernel⟩, List.mem_of_getElem? (i := 683) (by decide +kernel), List.mem_of_getElem? (i := 968) (by decide +kernel), List.mem_of_getElem? (i := 969) (by decide +kernel)⟩
theorem lw_p42 : lw_okq (⟨"ReachedHeapModel", "target", "(I)Z"⟩, 15) := ⟨⟨by decide +kernel, by decide +kernel⟩, List.mem_of_getElem? (i := 683) (by decide +kernel), List.mem_of_getElem? (i := 972) (by decide +kernel), List.mem_of_getElem? (i := 973) (by decide +kernel)⟩
theorem lw_p43 : lw_okq (⟨"ReachedHeapModel", "calls", "()I"⟩, 15) := ⟨⟨by decide +kernel, by decide +kernel⟩, List.mem_of_getElem? (i := 683) (by decide +kernel), List.mem_of_getElem? (i := 976) (by decide +kernel), List.mem_of_getElem? (i := 977) (by decide +kernel)⟩
def lw_privs_3 : List (MethodName × Nat) := [(⟨"ReachedHeapModel", "clears", "()V"⟩, 15), (⟨"ReachedHeapModel", "looksForFinish", "()V"⟩, 15), (⟨"ReachedHeapModel", "doesAll", "()I"⟩, 15), (⟨"ReachedHeapModel", "placeIn", "(I)I"⟩, 15), (⟨"ReachedHeapModel", "those", "(II)I"⟩, 15), (⟨"ReachedHeapModel", "plays", "()I"⟩, 15), (⟨"ReachedHeapModel", "reads", "()Z"⟩, 15), (⟨"ReachedHeapModel", "sign", "(I)Z"⟩, 15), (⟨"ReachedHeapModel", "isAt", "(II)Z"⟩, 15), (⟨"ReachedHeapModel", "number", "(I)Z"⟩, 15), (⟨"ReachedHeapModel", "target", "(I)Z"⟩, 15), (⟨"ReachedHeapModel", "calls", "()I"⟩, 15)]
theorem lw_r3 : ∀ q ∈ lw_privs_3, lw_okq q := List.forall_mem_cons.mpr ⟨lw_p32, List.forall_mem_cons.mpr ⟨lw_p33, List.forall_mem_cons.mpr ⟨lw_p34, List.forall_mem_cons.mpr ⟨lw_p35, List.forall_mem_cons.mpr ⟨lw_p36, List.forall_mem_cons.mpr ⟨lw_p37, List.forall_mem_cons.mpr ⟨lw_p38, List.forall_mem_cons.mpr ⟨lw_p39, List.forall_mem_cons.mpr ⟨lw_p40, List.forall_mem_cons.mpr ⟨lw_p41, List.forall_mem_cons.mpr ⟨lw_p42, List.forall_mem_cons.mpr ⟨lw_p43, fun _ h => absurd h List.not_mem_nil⟩⟩⟩⟩⟩⟩⟩⟩⟩⟩⟩⟩
def lw_privs : List (MethodName × Nat) := lw_privs_1 ++ (lw_privs_2 ++ (lw_privs_3))
def lw_tbl : List Cond := k2_sels lw_privs ++ tables_1
theorem lw_privs_ok : ∀ q ∈ lw_privs, lw_okq q := by
  show ∀ q ∈ lw_privs_1 ++ (lw_privs_2 ++ (lw_privs_3)), lw_okq q
  exact List.forall_mem_append.mpr ⟨lw_r1, List.forall_mem_append.mpr ⟨lw_r2, lw_r3⟩⟩
def RX0 : String := "ReachedHeap$Commands"
def TX0 : u_T := fun k => match k with
  | 0 => ("ReachedHeap$Commands", "signs", "[I", true)
  | 1 => ("ReachedHeap$Commands", "length", "I", false)
  | 2 => ("ReachedHeap$Commands", "next", "I", false)
  | 3 => ("ReachedHeap$Commands", "kind", "I", false)
  | 4 => ("ReachedHeap$Commands", "first", "I", false)
  | 5 => ("ReachedHeap$Commands", "second", "I", false)
  | 6 => ("ReachedHeap$Commands", "third", "I", false)
  | 7 => ("ReachedHeap$Commands", "done", "I", false)
  | 8 => ("ReachedHeap$Commands", "position", "I", false)
  | 9 => ("ReachedHeap$Commands", "reason", "I", false)
  | _ => ("ReachedHeap$Commands", "cause", "I", false)
def tyX0 : Nat → FieldType := fun k => match k with
  | 0 => .array .int
  | 1 => .int
  | 2 => .int
  | 3 => .int
  | 4 => .int
  | 5 => .int
  | 6 => .int
  | 7 => .int
  | 8 => .int
  | 9 => .int
  | _ => .int
abbrev wsX00 : List Cond := u_ws RX0 TX0 11
theorem nmX0 : ∀ a, a < 11 → ∀ b, b < 11 → a ≠ b → (TX0 a).2.1 ≠ (TX0 b).2.1 := by decide +kernel
theorem tyX0_ok : ∀ k, k < 11 → parseFieldDescriptor (TX0 k).2.2.1 = some (tyX0 k) := by decide +kernel
abbrev cX0_init : ByteArray := prog_2_method_1_code
def yX0_init : MethodName := ⟨RX0, "<init>", "()V"⟩
abbrev cX0_append : ByteArray := prog_2_method_2_code
def yX0_append : MethodName := ⟨RX0, "append", "(I)I"⟩
abbrev cX0_empty : ByteArray := prog_2_method_3_code
def yX0_empty : MethodName := ⟨RX0, "empty", "()I"⟩
abbrev cX0_tryOn : ByteArray := prog_2_method_4_code
def yX0_tryOn : MethodName := ⟨RX0, "tryOn", "(LReachedHeap$State;)V"⟩
abbrev cX0_tellFault : ByteArray := prog_2_method_5_code
def yX0_tellFault : MethodName := ⟨RX0, "tellFault", "(I)I"⟩
abbrev cX0_readCommand : ByteArray := prog_2_method_6_code
def yX0_readCommand : MethodName := ⟨RX0, "readCommand", "()Z"⟩
abbrev cX0_readTarget : ByteArray := prog_2_method_7_code
def yX0_readTarget : MethodName := ⟨RX0, "readTarget", "()I"⟩
abbrev cX0_readNumber : ByteArray := prog_2_method_8_code
def yX0_readNumber : MethodName := ⟨RX0, "readNumber", "()I"⟩
abbrev cX0_read : ByteArray := prog_2_method_9_code
def yX0_read : MethodName := ⟨RX0, "read", "(I)Z"⟩
abbrev cX0_isDigit : ByteArray := prog_2_method_10_code
def yX0_isDigit : MethodName := ⟨RX0, "isDigit", "(I)Z"⟩
abbrev cX0_signAt : ByteArray := prog_2_method_11_code
def yX0_signAt : MethodName := ⟨RX0, "signAt", "(I)I"⟩
def RX1 : String := "ReachedHeap$Graph"
def TX1 : u_T := fun k => match k with
  | 0 => ("ReachedHeap$Graph", "present", "I", false)
  | 1 => ("ReachedHeap$Graph", "wanting", "I", false)
  | 2 => ("ReachedHeap$Graph", "fields", "[I", true)
  | 3 => ("ReachedHeap$Graph", "roots", "[I", true)
  | 4 => ("ReachedHeap$Graph", "holders", "[I", true)
  | _ => ("ReachedHeap$Graph", "toFinish", "LReachedHeap$Line;", true)
def tyX1 : Nat → FieldType := fun k => match k with
  | 0 => .int
  | 1 => .int
  | 2 => .array .int
  | 3 => .array .int
  | 4 => .array .int
  | _ => .object "ReachedHeap$Line"
abbrev wsX10 : List Cond := u_ws RX1 TX1 6
theorem nmX1 : ∀ a, a < 6 → ∀ b, b < 6 → a ≠ b → (TX1 a).2.1 ≠ (TX1 b).2.1 := by decide +kernel
theorem tyX1_ok : ∀ k, k < 6 → parseFieldDescriptor (TX1 k).2.2.1 = some (tyX1 k) := by decide +kernel
abbrev cX1_init : ByteArray := prog_3_method_1_code
def yX1_init : MethodName := ⟨RX1, "<init>", "()V"⟩
abbrev cX1_has : ByteArray := prog_3_method_2_code
def yX1_has : MethodName := ⟨RX1, "has", "(I)Z"⟩
abbrev cX1_hasOrNone : ByteArray := prog_3_method_3_code
def yX1_hasOrNone : MethodName := ⟨RX1, "hasOrNone", "(I)Z"⟩
abbrev cX1_size : ByteArray := prog_3_method_4_code
def yX1_size : MethodName := ⟨RX1, "size", "()I"⟩
abbrev cX1_fieldOf : ByteArray := prog_3_method_5_code
def yX1_fieldOf : MethodName := ⟨RX1, "fieldOf", "(II)I"⟩
abbrev cX1_setField : ByteArray := prog_3_method_6_code
def yX1_setField : MethodName := ⟨RX1, "setField", "(III)V"⟩
abbrev cX1_rootAt : ByteArray := prog_3_method_7_code
def yX1_rootAt : MethodName := ⟨RX1, "rootAt", "(I)I"⟩
abbrev cX1_holderAt : ByteArray := prog_3_method_8_code
def yX1_holderAt : MethodName := ⟨RX1, "holderAt", "(I)I"⟩
abbrev cX1_tellReferred : ByteArray := prog_3_method_9_code
def yX1_tellReferred : MethodName := ⟨RX1, "tellReferred", "(II)I"⟩
abbrev cX1_bring : ByteArray := prog_3_method_10_code
def yX1_bring : MethodName := ⟨RX1, "bring", "()I"⟩
abbrev cX1_letGo : ByteArray := prog_3_method_11_code
def yX1_letGo : MethodName := ⟨RX1, "letGo", "(I)V"⟩
abbrev cX1_forget : ByteArray := prog_3_method_12_code
def yX1_forget : MethodName := ⟨RX1, "forget", "([II)V"⟩
abbrev cX1_emptyHoldersOf : ByteArray := prog_3_method_13_code
def yX1_emptyHoldersOf : MethodName := ⟨RX1, "emptyHoldersOf", "(I)V"⟩
abbrev cX1_setOfRoots : ByteArray := prog_3_method_14_code
def yX1_setOfRoots : MethodName := ⟨RX1, "setOfRoots", "()I"⟩
abbrev cX1_behind : ByteArray := prog_3_method_15_code
def yX1_behind : MethodName := ⟨RX1, "behind", "(I)I"⟩
abbrev cX1_reachedFrom : ByteArray := prog_3_method_16_code
def yX1_reachedFrom : MethodName := ⟨RX1, "reachedFrom", "(II)I"⟩
abbrev cX1_reachedByRoots : ByteArray := prog_3_method_17_code
def yX1_reachedByRoots : MethodName := ⟨RX1, "reachedByRoots", "()I"⟩
abbrev cX1_reachedByAll : ByteArray := prog_3_method_18_code
def yX1_reachedByAll : MethodName := ⟨RX1, "reachedByAll", "()I"⟩
abbrev cX1_distanceTo : ByteArray := prog_3_method_19_code
def yX1_distanceTo : MethodName := ⟨RX1, "distanceTo", "(I)I"⟩
abbrev cX1_copyFrom : ByteArray := prog_3_method_20_code
def yX1_copyFrom : MethodName := ⟨RX1, "copyFrom", "(LReachedHeap$Graph;)V"⟩
def RX2 : String := "ReachedHeap$History"
def TX2 : u_T := fun k => match k with
  | 0 => ("ReachedHeap$History", "states", "[LReachedHeap$State;", true)
  | 1 => ("ReachedHeap$History", "first", "I", false)
  | _ => ("ReachedHeap$History", "size", "I", false)
def tyX2 : Nat → FieldType := fun k => match k with
  | 0 => .array (.object "ReachedHeap$State")
  | 1 => .int
  | _ => .int
abbrev wsX20 : List Cond := u_ws RX2 TX2 3
theorem nmX2 : ∀ a, a < 3 → ∀ b, b < 3 → a ≠ b → (TX2 a).2.1 ≠ (TX2 b).2.1 := by decide +kernel
theorem tyX2_ok : ∀ k, k < 3 → parseFieldDescriptor (TX2 k).2.2.1 = some (tyX2 k) := by decide +kernel
abbrev cX2_init : ByteArray := prog_4_method_1_code
def yX2_init : MethodName := ⟨RX2, "<init>", "()V"⟩
abbrev cX2_stateAt : ByteArray := prog_4_method_2_code
def yX2_stateAt : MethodName := ⟨RX2, "stateAt", "(I)LReachedHeap$State;"⟩
abbrev cX2_note : ByteArray := prog_4_method_3_code
def yX2_note : MethodName := ⟨RX2, "note", "(LReachedHeap$State;)V"⟩
abbrev cX2_settle : ByteArray := prog_4_method_4_code
def yX2_settle : MethodName := ⟨RX2, "settle", "(I)I"⟩
abbrev cX2_takeBack : ByteArray := prog_4_method_5_code
def yX2_takeBack : MethodName := ⟨RX2, "takeBack", "(LReachedHeap$State;)I"⟩
def RX3 : String := "ReachedHeap$Line"
def TX3 : u_T := fun k => match k with
  | 0 => ("ReachedHeap$Line", "numbers", "[I", true)
  | _ => ("ReachedHeap$Line", "length", "I", false)
def tyX3 : Nat → FieldType := fun k => match k with
  | 0 => .array .int
  | _ => .int
abbrev wsX30 : List Cond := u_ws RX3 TX3 2
theorem nmX3 : ∀ a, a < 2 → ∀ b, b < 2 → a ≠ b → (TX3 a).2.1 ≠ (TX3 b).2.1 := by decide +kernel
theorem tyX3_ok : ∀ k, k < 2 → parseFieldDescriptor (TX3 k).2.2.1 = some (tyX3 k) := by decide +kernel
abbrev cX3_init : ByteArray := prog_5_method_1_code
def yX3_init : MethodName := ⟨RX3, "<init>", "()V"⟩
abbrev cX3_append : ByteArray := prog_5_method_2_code
def yX3_append : MethodName := ⟨RX3, "append", "(I)V"⟩
abbrev cX3_at : ByteArray := prog_5_method_3_code
def yX3_at : MethodName := ⟨RX3, "at", "(I)I"⟩
abbrev cX3_takeFirst : ByteArray := prog_5_method_4_code
def yX3_takeFirst : MethodName := ⟨RX3, "takeFirst", "()I"⟩
abbrev cX3_placeOf : ByteArray := prog_5_method_5_code
def yX3_placeOf : MethodName := ⟨RX3, "placeOf", "(I)I"⟩
abbrev cX3_asSet : ByteArray := prog_5_method_6_code
def yX3_asSet : MethodName := ⟨RX3, "asSet", "()I"⟩
abbrev cX3_copyFrom : ByteArray := prog_5_method_7_code
def yX3_copyFrom : MethodName := ⟨RX3, "copyFrom", "(LReachedHeap$Line;)V"⟩
def RX4 : String := "ReachedHeap$Search"
def TX4 : u_T := fun k => match k with
  | 0 => ("ReachedHeap$Search", "part", "I", false)
  | 1 => ("ReachedHeap$Search", "greyOnes", "I", false)
  | 2 => ("ReachedHeap$Search", "blackOnes", "I", false)
  | 3 => ("ReachedHeap$Search", "row", "LReachedHeap$Line;", true)
  | 4 => ("ReachedHeap$Search", "sweepFrom", "I", false)
  | 5 => ("ReachedHeap$Search", "began", "I", false)
  | 6 => ("ReachedHeap$Search", "steps", "I", false)
  | 7 => ("ReachedHeap$Search", "goneNow", "I", false)
  | _ => ("ReachedHeap$Search", "goneEver", "I", false)
def tyX4 : Nat → FieldType := fun k => match k with
  | 0 => .int
  | 1 => .int
  | 2 => .int
  | 3 => .object "ReachedHeap$Line"
  | 4 => .int
  | 5 => .int
  | 6 => .int
  | 7 => .int
  | _ => .int
abbrev wsX40 : List Cond := u_ws RX4 TX4 9
theorem nmX4 : ∀ a, a < 9 → ∀ b, b < 9 → a ≠ b → (TX4 a).2.1 ≠ (TX4 b).2.1 := by decide +kernel
theorem tyX4_ok : ∀ k, k < 9 → parseFieldDescriptor (TX4 k).2.2.1 = some (tyX4 k) := by decide +kernel
abbrev cX4_init : ByteArray := prog_6_method_1_code
def yX4_init : MethodName := ⟨RX4, "<init>", "()V"⟩
abbrev cX4_isThere : ByteArray := prog_6_method_2_code
def yX4_isThere : MethodName := ⟨RX4, "isThere", "()Z"⟩
abbrev cX4_needsCare : ByteArray := prog_6_method_3_code
def yX4_needsCare : MethodName := ⟨RX4, "needsCare", "()Z"⟩
abbrev cX4_isBlack : ByteArray := prog_6_method_4_code
def yX4_isBlack : MethodName := ⟨RX4, "isBlack", "(I)Z"⟩
abbrev cX4_colourOf : ByteArray := prog_6_method_5_code
def yX4_colourOf : MethodName := ⟨RX4, "colourOf", "(I)I"⟩
abbrev cX4_whiteOnes : ByteArray := prog_6_method_6_code
def yX4_whiteOnes : MethodName := ⟨RX4, "whiteOnes", "(LReachedHeap$Graph;)I"⟩
abbrev cX4_shade : ByteArray := prog_6_method_7_code
def yX4_shade : MethodName := ⟨RX4, "shade", "(I)V"⟩
abbrev cX4_colourNewOne : ByteArray := prog_6_method_8_code
def yX4_colourNewOne : MethodName := ⟨RX4, "colourNewOne", "(I)V"⟩
abbrev cX4_open : ByteArray := prog_6_method_9_code
def yX4_open : MethodName := ⟨RX4, "open", "(LReachedHeap$Graph;)V"⟩
abbrev cX4_advance : ByteArray := prog_6_method_10_code
def yX4_advance : MethodName := ⟨RX4, "advance", "(LReachedHeap$Graph;)V"⟩
abbrev cX4_markFirst : ByteArray := prog_6_method_11_code
def yX4_markFirst : MethodName := ⟨RX4, "markFirst", "(LReachedHeap$Graph;)V"⟩
abbrev cX4_findToFinish : ByteArray := prog_6_method_12_code
def yX4_findToFinish : MethodName := ⟨RX4, "findToFinish", "(LReachedHeap$Graph;)V"⟩
abbrev cX4_sweep : ByteArray := prog_6_method_13_code
def yX4_sweep : MethodName := ⟨RX4, "sweep", "(LReachedHeap$Graph;)V"⟩
abbrev cX4_copyFrom : ByteArray := prog_6_method_14_code
def yX4_copyFrom : MethodName := ⟨RX4, "copyFrom", "(LReachedHeap$Search;)V"⟩
def RX5 : String := "ReachedHeap$State"
def TX5 : u_T := fun k => match k with
  | 0 => ("ReachedHeap$State", "graph", "LReachedHeap$Graph;", true)
  | 1 => ("ReachedHeap$State", "search", "LReachedHeap$Search;", true)
  | 2 => ("ReachedHeap$State", "beganBefore", "[I", true)
  | 3 => ("ReachedHeap$State", "care", "I", false)
  | 4 => ("ReachedHeap$State", "came", "I", false)
  | _ => ("ReachedHeap$State", "finished", "I", false)
def tyX5 : Nat → FieldType := fun k => match k with
  | 0 => .object "ReachedHeap$Graph"
  | 1 => .object "ReachedHeap$Search"
  | 2 => .array .int
  | 3 => .int
  | 4 => .int
  | _ => .int
abbrev wsX50 : List Cond := u_ws RX5 TX5 6
theorem nmX5 : ∀ a, a < 6 → ∀ b, b < 6 → a ≠ b → (TX5 a).2.1 ≠ (TX5 b).2.1 := by decide +kernel
theorem tyX5_ok : ∀ k, k < 6 → parseFieldDescriptor (TX5 k).2.2.1 = some (tyX5 k) := by decide +kernel
abbrev cX5_init : ByteArray := prog_7_method_1_code
def yX5_init : MethodName := ⟨RX5, "<init>", "()V"⟩
abbrev cX5_create : ByteArray := prog_7_method_2_code
def yX5_create : MethodName := ⟨RX5, "create", "(I)I"⟩
abbrev cX5_writeField : ByteArray := prog_7_method_3_code
def yX5_writeField : MethodName := ⟨RX5, "writeField", "(III)I"⟩
abbrev cX5_writeRoot : ByteArray := prog_7_method_4_code
def yX5_writeRoot : MethodName := ⟨RX5, "writeRoot", "(II)I"⟩
abbrev cX5_writeHolder : ByteArray := prog_7_method_5_code
def yX5_writeHolder : MethodName := ⟨RX5, "writeHolder", "(II)I"⟩
abbrev cX5_askHolder : ByteArray := prog_7_method_6_code
def yX5_askHolder : MethodName := ⟨RX5, "askHolder", "(II)I"⟩
abbrev cX5_wishFinish : ByteArray := prog_7_method_7_code
def yX5_wishFinish : MethodName := ⟨RX5, "wishFinish", "(I)I"⟩
abbrev cX5_finishFirst : ByteArray := prog_7_method_8_code
def yX5_finishFirst : MethodName := ⟨RX5, "finishFirst", "(I)I"⟩
abbrev cX5_referRoot : ByteArray := prog_7_method_9_code
def yX5_referRoot : MethodName := ⟨RX5, "referRoot", "(II)V"⟩
abbrev cX5_takeCare : ByteArray := prog_7_method_10_code
def yX5_takeCare : MethodName := ⟨RX5, "takeCare", "(ZII)V"⟩
abbrev cX5_shadeIfCareIsNeeded : ByteArray := prog_7_method_11_code
def yX5_shadeIfCareIsNeeded : MethodName := ⟨RX5, "shadeIfCareIsNeeded", "(I)V"⟩
abbrev cX5_beginSearch : ByteArray := prog_7_method_12_code
def yX5_beginSearch : MethodName := ⟨RX5, "beginSearch", "()I"⟩
abbrev cX5_doSteps : ByteArray := prog_7_method_13_code
def yX5_doSteps : MethodName := ⟨RX5, "doSteps", "(I)I"⟩
abbrev cX5_doAllSteps : ByteArray := prog_7_method_14_code
def yX5_doAllSteps : MethodName := ⟨RX5, "doAllSteps", "()I"⟩
abbrev cX5_setCare : ByteArray := prog_7_method_15_code
def yX5_setCare : MethodName := ⟨RX5, "setCare", "(I)I"⟩
abbrev cX5_tellObject : ByteArray := prog_7_method_16_code
def yX5_tellObject : MethodName := ⟨RX5, "tellObject", "(II)I"⟩
abbrev cX5_tellSet : ByteArray := prog_7_method_17_code
def yX5_tellSet : MethodName := ⟨RX5, "tellSet", "(I)I"⟩
abbrev cX5_tellNumber : ByteArray := prog_7_method_18_code
def yX5_tellNumber : MethodName := ⟨RX5, "tellNumber", "(I)I"⟩
abbrev cX5_lateOnes : ByteArray := prog_7_method_19_code
def yX5_lateOnes : MethodName := ⟨RX5, "lateOnes", "()I"⟩
abbrev cX5_copyFrom : ByteArray := prog_7_method_20_code
def yX5_copyFrom : MethodName := ⟨RX5, "copyFrom", "(LReachedHeap$State;)V"⟩
def RX6 : String := "ReachedHeap"
def TX6 : u_T := fun k => match k with
  | 0 => ("ReachedHeap", "state", "LReachedHeap$State;", true)
  | 1 => ("ReachedHeap", "ahead", "LReachedHeap$State;", true)
  | 2 => ("ReachedHeap", "kept", "LReachedHeap$State;", true)
  | 3 => ("ReachedHeap", "history", "LReachedHeap$History;", true)
  | 4 => ("ReachedHeap", "commands", "LReachedHeap$Commands;", true)
  | _ => ("ReachedHeap", "isKept", "Z", false)
def tyX6 : Nat → FieldType := fun k => match k with
  | 0 => .object "ReachedHeap$State"
  | 1 => .object "ReachedHeap$State"
  | 2 => .object "ReachedHeap$State"
  | 3 => .object "ReachedHeap$History"
  | 4 => .object "ReachedHeap$Commands"
  | _ => .boolean
abbrev wsX60 : List Cond := u_ws RX6 TX6 6
theorem nmX6 : ∀ a, a < 6 → ∀ b, b < 6 → a ≠ b → (TX6 a).2.1 ≠ (TX6 b).2.1 := by decide +kernel
theorem tyX6_ok : ∀ k, k < 6 → parseFieldDescriptor (TX6 k).2.2.1 = some (tyX6 k) := by decide +kernel
abbrev cX6_init : ByteArray := prog_1_method_1_code
def yX6_init : MethodName := ⟨RX6, "<init>", "()V"⟩
abbrev cX6_make : ByteArray := prog_1_method_2_code
def yX6_make : MethodName := ⟨RX6, "make", "(I)I"⟩
abbrev cX6_field : ByteArray := prog_1_method_3_code
def yX6_field : MethodName := ⟨RX6, "field", "(III)I"⟩
abbrev cX6_root : ByteArray := prog_1_method_4_code
def yX6_root : MethodName := ⟨RX6, "root", "(II)I"⟩
abbrev cX6_weak : ByteArray := prog_1_method_5_code
def yX6_weak : MethodName := ⟨RX6, "weak", "(II)I"⟩
abbrev cX6_ask : ByteArray := prog_1_method_6_code
def yX6_ask : MethodName := ⟨RX6, "ask", "(II)I"⟩
abbrev cX6_want : ByteArray := prog_1_method_7_code
def yX6_want : MethodName := ⟨RX6, "want", "(I)I"⟩
abbrev cX6_finish : ByteArray := prog_1_method_8_code
def yX6_finish : MethodName := ⟨RX6, "finish", "(I)I"⟩
abbrev cX6_begin : ByteArray := prog_1_method_9_code
def yX6_begin : MethodName := ⟨RX6, "begin", "()I"⟩
abbrev cX6_step : ByteArray := prog_1_method_10_code
def yX6_step : MethodName := ⟨RX6, "step", "(I)I"⟩
abbrev cX6_all : ByteArray := prog_1_method_11_code
def yX6_all : MethodName := ⟨RX6, "all", "()I"⟩
abbrev cX6_set : ByteArray := prog_1_method_12_code
def yX6_set : MethodName := ⟨RX6, "set", "(I)I"⟩
abbrev cX6_objectOf : ByteArray := prog_1_method_13_code
def yX6_objectOf : MethodName := ⟨RX6, "objectOf", "(II)I"⟩
abbrev cX6_refers : ByteArray := prog_1_method_14_code
def yX6_refers : MethodName := ⟨RX6, "refers", "(II)I"⟩
abbrev cX6_grey : ByteArray := prog_1_method_15_code
def yX6_grey : MethodName := ⟨RX6, "grey", "(I)I"⟩
abbrev cX6_objects : ByteArray := prog_1_method_16_code
def yX6_objects : MethodName := ⟨RX6, "objects", "(I)I"⟩
abbrev cX6_count : ByteArray := prog_1_method_17_code
def yX6_count : MethodName := ⟨RX6, "count", "(I)I"⟩
abbrev cX6_far : ByteArray := prog_1_method_18_code
def yX6_far : MethodName := ⟨RX6, "far", "(I)I"⟩
abbrev cX6_hangs : ByteArray := prog_1_method_19_code
def yX6_hangs : MethodName := ⟨RX6, "hangs", "(I)I"⟩
abbrev cX6_wouldGo : ByteArray := prog_1_method_20_code
def yX6_wouldGo : MethodName := ⟨RX6, "wouldGo", "()I"⟩
abbrev cX6_late : ByteArray := prog_1_method_21_code
def yX6_late : MethodName := ⟨RX6, "late", "()I"⟩
abbrev cX6_keep : ByteArray := prog_1_method_22_code
def yX6_keep : MethodName := ⟨RX6, "keep", "()I"⟩
abbrev cX6_restore : ByteArray := prog_1_method_23_code
def yX6_restore : MethodName := ⟨RX6, "restore", "()I"⟩
abbrev cX6_undo : ByteArray := prog_1_method_24_code
def yX6_undo : MethodName := ⟨RX6, "undo", "()I"⟩
abbrev cX6_type : ByteArray := prog_1_method_25_code
def yX6_type : MethodName := ⟨RX6, "type", "(I)I"⟩
abbrev cX6_clearText : ByteArray := prog_1_method_26_code
def yX6_clearText : MethodName := ⟨RX6, "clearText", "()I"⟩
abbrev cX6_fault : ByteArray := prog_1_method_27_code
def yX6_fault : MethodName := ⟨RX6, "fault", "(I)I"⟩
abbrev cX6_play : ByteArray := prog_1_method_28_code
def yX6_play : MethodName := ⟨RX6, "play", "()I"⟩
abbrev cX6_bit : ByteArray := prog_1_method_29_code
def yX6_bit : MethodName := ⟨RX6, "bit", "(I)I"⟩
abbrev cX6_isIn : ByteArray := prog_1_method_30_code
def yX6_isIn : MethodName := ⟨RX6, "isIn", "(II)Z"⟩
abbrev cX6_isError : ByteArray := prog_1_method_31_code
def yX6_isError : MethodName := ⟨RX6, "isError", "(I)Z"⟩
abbrev cX6_lowestOf : ByteArray := prog_1_method_32_code
def yX6_lowestOf : MethodName := ⟨RX6, "lowestOf", "(II)I"⟩
def RX7 : String := "ReachedHeapModel"
def TX7 : u_T := fun k => match k with
  | 0 => ("ReachedHeapModel", "s", "[I", true)
  | 1 => ("ReachedHeapModel", "past", "[I", true)
  | 2 => ("ReachedHeapModel", "held", "[I", true)
  | 3 => ("ReachedHeapModel", "tried", "[I", true)
  | 4 => ("ReachedHeapModel", "kept", "[I", true)
  | 5 => ("ReachedHeapModel", "isKept", "Z", false)
  | 6 => ("ReachedHeapModel", "pasts", "I", false)
  | 7 => ("ReachedHeapModel", "runs", "Z", false)
  | 8 => ("ReachedHeapModel", "text", "[I", true)
  | 9 => ("ReachedHeapModel", "typed", "I", false)
  | 10 => ("ReachedHeapModel", "spot", "I", false)
  | 11 => ("ReachedHeapModel", "cause", "I", false)
  | 12 => ("ReachedHeapModel", "commands", "I", false)
  | 13 => ("ReachedHeapModel", "order", "I", false)
  | _ => ("ReachedHeapModel", "told", "[I", true)
def tyX7 : Nat → FieldType := fun k => match k with
  | 0 => .array .int
  | 1 => .array .int
  | 2 => .array .int
  | 3 => .array .int
  | 4 => .array .int
  | 5 => .boolean
  | 6 => .int
  | 7 => .boolean
  | 8 => .array .int
  | 9 => .int
  | 10 => .int
  | 11 => .int
  | 12 => .int
  | 13 => .int
  | _ => .array .int
abbrev wsX70 : List Cond := u_ws RX7 TX7 15
theorem nmX7 : ∀ a, a < 15 → ∀ b, b < 15 → a ≠ b → (TX7 a).2.1 ≠ (TX7 b).2.1 := by decide +kernel
theorem tyX7_ok : ∀ k, k < 15 → parseFieldDescriptor (TX7 k).2.2.1 = some (tyX7 k) := by decide +kernel
abbrev cX7_init : ByteArray := prog_9_method_1_code
def yX7_init : MethodName := ⟨RX7, "<init>", "()V"⟩
abbrev cX7_in : ByteArray := prog_9_method_3_code
def yX7_in : MethodName := ⟨RX7, "in", "(III)Z"⟩
abbrev cX7_copies : ByteArray := prog_9_method_4_code
def yX7_copies : MethodName := ⟨RX7, "copies", "([I[I)V"⟩
abbrev cX7_changes : ByteArray := prog_9_method_5_code
def yX7_changes : MethodName := ⟨RX7, "changes", "()V"⟩
abbrev cX7_of : ByteArray := prog_9_method_6_code
def yX7_of : MethodName := ⟨RX7, "of", "(II)I"⟩
abbrev cX7_sets : ByteArray := prog_9_method_7_code
def yX7_sets : MethodName := ⟨RX7, "sets", "(III)V"⟩
abbrev cX7_isObject : ByteArray := prog_9_method_8_code
def yX7_isObject : MethodName := ⟨RX7, "isObject", "(I)Z"⟩
abbrev cX7_isRoot : ByteArray := prog_9_method_9_code
def yX7_isRoot : MethodName := ⟨RX7, "isRoot", "(I)Z"⟩
abbrev cX7_spreads : ByteArray := prog_9_method_10_code
def yX7_spreads : MethodName := ⟨RX7, "spreads", "(II)I"⟩
abbrev cX7_rooted : ByteArray := prog_9_method_11_code
def yX7_rooted : MethodName := ⟨RX7, "rooted", "(I)I"⟩
abbrev cX7_reached : ByteArray := prog_9_method_12_code
def yX7_reached : MethodName := ⟨RX7, "reached", "()I"⟩
abbrev cX7_isReached : ByteArray := prog_9_method_13_code
def yX7_isReached : MethodName := ⟨RX7, "isReached", "(I)Z"⟩
abbrev cX7_isMarking : ByteArray := prog_9_method_14_code
def yX7_isMarking : MethodName := ⟨RX7, "isMarking", "()Z"⟩
abbrev cX7_shades : ByteArray := prog_9_method_15_code
def yX7_shades : MethodName := ⟨RX7, "shades", "(I)V"⟩
abbrev cX7_cares : ByteArray := prog_9_method_16_code
def yX7_cares : MethodName := ⟨RX7, "cares", "(IIZ)V"⟩
abbrev cX7_writesRoot : ByteArray := prog_9_method_17_code
def yX7_writesRoot : MethodName := ⟨RX7, "writesRoot", "(II)I"⟩
abbrev cX7_lowestFree : ByteArray := prog_9_method_18_code
def yX7_lowestFree : MethodName := ⟨RX7, "lowestFree", "()I"⟩
abbrev cX7_make : ByteArray := prog_9_method_19_code
def yX7_make : MethodName := ⟨RX7, "make", "(I)I"⟩
abbrev cX7_field : ByteArray := prog_9_method_20_code
def yX7_field : MethodName := ⟨RX7, "field", "(III)I"⟩
abbrev cX7_root : ByteArray := prog_9_method_21_code
def yX7_root : MethodName := ⟨RX7, "root", "(II)I"⟩
abbrev cX7_weak : ByteArray := prog_9_method_22_code
def yX7_weak : MethodName := ⟨RX7, "weak", "(II)I"⟩
abbrev cX7_ask : ByteArray := prog_9_method_23_code
def yX7_ask : MethodName := ⟨RX7, "ask", "(II)I"⟩
abbrev cX7_wanting : ByteArray := prog_9_method_24_code
def yX7_wanting : MethodName := ⟨RX7, "wanting", "()I"⟩
abbrev cX7_want : ByteArray := prog_9_method_25_code
def yX7_want : MethodName := ⟨RX7, "want", "(I)I"⟩
abbrev cX7_takes : ByteArray := prog_9_method_26_code
def yX7_takes : MethodName := ⟨RX7, "takes", "(I)I"⟩
abbrev cX7_finish : ByteArray := prog_9_method_27_code
def yX7_finish : MethodName := ⟨RX7, "finish", "(I)I"⟩
abbrev cX7_begins : ByteArray := prog_9_method_28_code
def yX7_begins : MethodName := ⟨RX7, "begins", "()V"⟩
abbrev cX7_begin : ByteArray := prog_9_method_29_code
def yX7_begin : MethodName := ⟨RX7, "begin", "()I"⟩
abbrev cX7_blackens : ByteArray := prog_9_method_30_code
def yX7_blackens : MethodName := ⟨RX7, "blackens", "()V"⟩
abbrev cX7_clears : ByteArray := prog_9_method_31_code
def yX7_clears : MethodName := ⟨RX7, "clears", "()V"⟩
abbrev cX7_looksForFinish : ByteArray := prog_9_method_32_code
def yX7_looksForFinish : MethodName := ⟨RX7, "looksForFinish", "()V"⟩
abbrev cX7_letsGo : ByteArray := prog_9_method_33_code
def yX7_letsGo : MethodName := ⟨RX7, "letsGo", "(I)V"⟩
abbrev cX7_sweeps : ByteArray := prog_9_method_34_code
def yX7_sweeps : MethodName := ⟨RX7, "sweeps", "()V"⟩
abbrev cX7_steps : ByteArray := prog_9_method_35_code
def yX7_steps : MethodName := ⟨RX7, "steps", "()V"⟩
abbrev cX7_step : ByteArray := prog_9_method_36_code
def yX7_step : MethodName := ⟨RX7, "step", "(I)I"⟩
abbrev cX7_doesAll : ByteArray := prog_9_method_37_code
def yX7_doesAll : MethodName := ⟨RX7, "doesAll", "()I"⟩
abbrev cX7_all : ByteArray := prog_9_method_38_code
def yX7_all : MethodName := ⟨RX7, "all", "()I"⟩
abbrev cX7_set : ByteArray := prog_9_method_39_code
def yX7_set : MethodName := ⟨RX7, "set", "(I)I"⟩
abbrev cX7_placeIn : ByteArray := prog_9_method_40_code
def yX7_placeIn : MethodName := ⟨RX7, "placeIn", "(I)I"⟩
abbrev cX7_objectOf : ByteArray := prog_9_method_41_code
def yX7_objectOf : MethodName := ⟨RX7, "objectOf", "(II)I"⟩
abbrev cX7_refers : ByteArray := prog_9_method_42_code
def yX7_refers : MethodName := ⟨RX7, "refers", "(II)I"⟩
abbrev cX7_grey : ByteArray := prog_9_method_43_code
def yX7_grey : MethodName := ⟨RX7, "grey", "(I)I"⟩
abbrev cX7_those : ByteArray := prog_9_method_44_code
def yX7_those : MethodName := ⟨RX7, "those", "(II)I"⟩
abbrev cX7_objects : ByteArray := prog_9_method_45_code
def yX7_objects : MethodName := ⟨RX7, "objects", "(I)I"⟩
abbrev cX7_ones : ByteArray := prog_9_method_46_code
def yX7_ones : MethodName := ⟨RX7, "ones", "(I)I"⟩
abbrev cX7_count : ByteArray := prog_9_method_47_code
def yX7_count : MethodName := ⟨RX7, "count", "(I)I"⟩
abbrev cX7_far : ByteArray := prog_9_method_48_code
def yX7_far : MethodName := ⟨RX7, "far", "(I)I"⟩
abbrev cX7_hangs : ByteArray := prog_9_method_49_code
def yX7_hangs : MethodName := ⟨RX7, "hangs", "(I)I"⟩
abbrev cX7_wouldGo : ByteArray := prog_9_method_50_code
def yX7_wouldGo : MethodName := ⟨RX7, "wouldGo", "()I"⟩
abbrev cX7_late : ByteArray := prog_9_method_51_code
def yX7_late : MethodName := ⟨RX7, "late", "()I"⟩
abbrev cX7_keep : ByteArray := prog_9_method_52_code
def yX7_keep : MethodName := ⟨RX7, "keep", "()I"⟩
abbrev cX7_restore : ByteArray := prog_9_method_53_code
def yX7_restore : MethodName := ⟨RX7, "restore", "()I"⟩
abbrev cX7_undo : ByteArray := prog_9_method_54_code
def yX7_undo : MethodName := ⟨RX7, "undo", "()I"⟩
abbrev cX7_type : ByteArray := prog_9_method_55_code
def yX7_type : MethodName := ⟨RX7, "type", "(I)I"⟩
abbrev cX7_clearText : ByteArray := prog_9_method_56_code
def yX7_clearText : MethodName := ⟨RX7, "clearText", "()I"⟩
abbrev cX7_isAt : ByteArray := prog_9_method_57_code
def yX7_isAt : MethodName := ⟨RX7, "isAt", "(II)Z"⟩
abbrev cX7_sign : ByteArray := prog_9_method_58_code
def yX7_sign : MethodName := ⟨RX7, "sign", "(I)Z"⟩
abbrev cX7_number : ByteArray := prog_9_method_59_code
def yX7_number : MethodName := ⟨RX7, "number", "(I)Z"⟩
abbrev cX7_target : ByteArray := prog_9_method_60_code
def yX7_target : MethodName := ⟨RX7, "target", "(I)Z"⟩
abbrev cX7_reads : ByteArray := prog_9_method_61_code
def yX7_reads : MethodName := ⟨RX7, "reads", "()Z"⟩
abbrev cX7_calls : ByteArray := prog_9_method_62_code
def yX7_calls : MethodName := ⟨RX7, "calls", "()I"⟩
abbrev cX7_plays : ByteArray := prog_9_method_63_code
def yX7_plays : MethodName := ⟨RX7, "plays", "()I"⟩
abbrev cX7_fault : ByteArray := prog_9_method_64_code
def yX7_fault : MethodName := ⟨RX7, "fault", "(I)I"⟩
abbrev cX7_play : ByteArray := prog_9_method_65_code
def yX7_play : MethodName := ⟨RX7, "play", "()I"⟩
def RJ6 : String := "java/lang/Integer"
def TJ6 : u_T := fun k => match k with
  | _ => ("", "", "", false)
def tyJ6 : Nat → FieldType := fun k => match k with
  | _ => .int
abbrev wsJ60 : List Cond := u_ws RJ6 TJ6 0
theorem nmJ6 : ∀ a, a < 0 → ∀ b, b < 0 → a ≠ b → (TJ6 a).2.1 ≠ (TJ6 b).2.1 := by decide +kernel
theorem tyJ6_ok : ∀ k, k < 0 → parseFieldDescriptor (TJ6 k).2.2.1 = some (tyJ6 k) := by decide +kernel
abbrev cJ6_bitCount_0f7a4 : ByteArray := prog_10_method_49_code
def yJ6_bitCount_0f7a4 : MethodName := ⟨RJ6, "bitCount", "(I)I"⟩
def RJ9 : String := "java/lang/Math"
def TJ9 : u_T := fun k => match k with
  | _ => ("", "", "", false)
def tyJ9 : Nat → FieldType := fun k => match k with
  | _ => .int
abbrev wsJ90 : List Cond := u_ws RJ9 TJ9 0
theorem nmJ9 : ∀ a, a < 0 → ∀ b, b < 0 → a ≠ b → (TJ9 a).2.1 ≠ (TJ9 b).2.1 := by decide +kernel
theorem tyJ9_ok : ∀ k, k < 0 → parseFieldDescriptor (TJ9 k).2.2.1 = some (tyJ9 k) := by decide +kernel
abbrev cJ9_floorMod_7cf53 : ByteArray := prog_11_method_50_code
def yJ9_floorMod_7cf53 : MethodName := ⟨RJ9, "floorMod", "(II)I"⟩
abbrev cJ9_max_7cf53 : ByteArray := prog_11_method_65_code
def yJ9_max_7cf53 : MethodName := ⟨RJ9, "max", "(II)I"⟩
def RJ10 : String := "java/lang/System"
def TJ10 : u_T := fun k => match k with
  | _ => ("", "", "", false)
def tyJ10 : Nat → FieldType := fun k => match k with
  | _ => .int
abbrev wsJ100 : List Cond := u_ws RJ10 TJ10 0
theorem nmJ10 : ∀ a, a < 0 → ∀ b, b < 0 → a ≠ b → (TJ10 a).2.1 ≠ (TJ10 b).2.1 := by decide +kernel
theorem tyJ10_ok : ∀ k, k < 0 → parseFieldDescriptor (TJ10 k).2.2.1 = some (tyJ10 k) := by decide +kernel
def RJ7 : String := "java/util/Arrays"
def TJ7 : u_T := fun k => match k with
  | _ => ("", "", "", false)
def tyJ7 : Nat → FieldType := fun k => match k with
  | _ => .int
abbrev wsJ70 : List Cond := u_ws RJ7 TJ7 0
theorem nmJ7 : ∀ a, a < 0 → ∀ b, b < 0 → a ≠ b → (TJ7 a).2.1 ≠ (TJ7 b).2.1 := by decide +kernel
theorem tyJ7_ok : ∀ k, k < 0 → parseFieldDescriptor (TJ7 k).2.2.1 = some (tyJ7 k) := by decide +kernel
abbrev cJ7_fill_53178 : ByteArray := prog_13_method_103_code
def yJ7_fill_53178 : MethodName := ⟨RJ7, "fill", "([II)V"⟩
def RL : String := "ReachedHeapLaw"
abbrev cL_law : ByteArray := code
def yL_law : MethodName := ⟨RL, "law", "([I)Z"⟩
abbrev vwCl : List vw_C := [(RX0, TX0, 11), (RX1, TX1, 6), (RX2, TX2, 3), (RX3, TX3, 2), (RX4, TX4, 9), (RX5, TX5, 6), (RX6, TX6, 6), (RX7, TX7, 15)]
theorem tb_mem1 {w : Cond} (h : w ∈ tables_1) : w ∈ lw_tbl := List.mem_append_right _ h
theorem tb_1 (i : Nat) {w : Cond} (h : tables_1_1[i]? = some w) : w ∈ lw_tbl := tb_mem1 (List.mem_append_left _ (List.mem_of_getElem? h))
theorem tb_2 (i : Nat) {w : Cond} (h : tables_1_2[i]? = some w) : w ∈ lw_tbl := tb_mem1 (List.mem_append_right _ (List.mem_append_left _ (List.mem_of_getElem? h)))
theorem tb_3 (i : Nat) {w : Cond} (h : tables_1_3[i]? = some w) : w ∈ lw_tbl := tb_mem1 (List.mem_append_right _ (List.mem_append_right _ (List.mem_append_left _ (List.mem_of_getElem? h))))
theorem tb_4 (i : Nat) {w : Cond} (h : tables_1_4[i]? = some w) : w ∈ lw_tbl := tb_mem1 (List.mem_append_right _ (List.mem_append_right _ (List.mem_append_right _ (List.mem_append_left _ (List.mem_of_getElem? h)))))
theorem tb_5 (i : Nat) {w : Cond} (h : tables_1_5[i]? = some w) : w ∈ lw_tbl := tb_mem1 (List.mem_append_right _ (List.mem_append_right _ (List.mem_append_right _ (List.mem_append_right _ (List.mem_of_getElem? h)))))
theorem tb_sel (q : MethodName × Nat) (h : q ∈ lw_privs) : Cond.selects q.1.cls q.1 q.1 ∈ lw_tbl := List.mem_append_left _ (List.mem_map.mpr ⟨q, h, rfl⟩)
def lw_g : List Cond := lw_tbl.filter goodWord
theorem lw_g_in {w : Cond} (h : w ∈ lw_tbl) (hg : goodWord w = true) : w ∈ lw_g := List.mem_filter.mpr ⟨h, hg⟩
theorem lw_g_tb {w : Cond} (h : w ∈ lw_g) : w ∈ lw_tbl := (List.mem_filter.mp h).1
theorem gi_g {big ws : List Cond} (hb : ∀ w ∈ lw_g, w ∈ big) (h : ∀ w ∈ ws, w ∈ lw_g) : GoodIn big ws := fun w hw => ⟨hb w (h w hw), good_of_word (List.mem_filter.mp (h w hw)).2⟩
theorem tb1 (i : Nat) {w : Cond} (h : tables_1_1[i]? = some w) (hg : goodWord w = true := by rfl) : w ∈ lw_g := lw_g_in (tb_1 i h) hg
theorem tb2 (i : Nat) {w : Cond} (h : tables_1_2[i]? = some w) (hg : goodWord w = true := by rfl) : w ∈ lw_g := lw_g_in (tb_2 i h) hg
theorem tb3 (i : Nat) {w : Cond} (h : tables_1_3[i]? = some w) (hg : goodWord w = true := by rfl) : w ∈ lw_g := lw_g_in (tb_3 i h) hg
theorem tb4 (i : Nat) {w : Cond} (h : tables_1_4[i]? = some w) (hg : goodWord w = true := by rfl) : w ∈ lw_g := lw_g_in (tb_4 i h) hg
theorem tb5 (i : Nat) {w : Cond} (h : tables_1_5[i]? = some w) (hg : goodWord w = true := by rfl) : w ∈ lw_g := lw_g_in (tb_5 i h) hg
theorem tbs (q : MethodName × Nat) (h : q ∈ lw_privs) : Cond.selects q.1.cls q.1 q.1 ∈ lw_g := lw_g_in (tb_sel q h) rfl
set_option maxRecDepth 100000 in
theorem inX0 : ∀ w ∈ wsX00, w ∈ lw_g := by decide +kernel
set_option maxRecDepth 100000 in
theorem inX1 : ∀ w ∈ wsX10, w ∈ lw_g := by decide +kernel
set_option maxRecDepth 100000 in
theorem inX2 : ∀ w ∈ wsX20, w ∈ lw_g := by decide +kernel
set_option maxRecDepth 100000 in
theorem inX3 : ∀ w ∈ wsX30, w ∈ lw_g := by decide +kernel
set_option maxRecDepth 100000 in
theorem inX4 : ∀ w ∈ wsX40, w ∈ lw_g := by decide +kernel
set_option maxRecDepth 100000 in
theorem inX5 : ∀ w ∈ wsX50, w ∈ lw_g := by decide +kernel
set_option maxRecDepth 100000 in
theorem inX6 : ∀ w ∈ wsX60, w ∈ lw_g := by decide +kernel
set_option maxRecDepth 100000 in
theorem inX7 : ∀ w ∈ wsX70, w ∈ lw_g := by decide +kernel
end
section
def nsts : List (String × Nat × MethodName × String) := [(RX6, 9, yX5_init, "ReachedHeap"), (RX6, 31, yX0_init, "ReachedHeap"), (RX0, 71, yX6_isError, "ReachedHeap"), (RX1, 23, yX3_init, "ReachedHeap"), (RX1, 38, yX6_bit, "ReachedHeap"), (RX1, 51, yX6_isIn, "ReachedHeap"), (RX1, 61, yX6_lowestOf, "ReachedHeap"), (RX2, 17, yX5_init, "ReachedHeap"), (RX2, 39, yX6_isError, "ReachedHeap"), (RX3, 19, yX6_isIn, "ReachedHeap"), (RX3, 29, yX6_bit, "ReachedHeap"), (RX4, 17, yX3_init, "ReachedHeap"), (RX4, 25, yX6_bit, "ReachedHeap"), (RX4, 104, yX6_lowestOf, "ReachedHeap"), (RX5, 20, yX4_init, "ReachedHeap"), (RX5, 33, yX6_isIn, "ReachedHeap"), (RX5, 62, yX6_bit, "ReachedHeap")]
/-! THE RULES OF A BODY'S WALK over a world that is a function of numbers (St): a rule an instruction, a call by its contract -/
abbrev St : Type := (Nat → Int32) × (Nat → Nat → Int32)
def us (f : Nat → Int32) (r : Nat) (v : Int32) : Nat → Int32 := fun k => if k = r then v else f k
def ua (f : Nat → Nat → Int32) (a : Nat) (g : Nat → Int32) : Nat → Nat → Int32 := fun b => if b = a then g else f b
/-- a number written; a place of a row written; a row written whole -/
def sR (w : St) (r : Nat) (v : Int32) : St := (us w.1 r v, w.2)
def sG (w : St) (a : Nat) (g : Nat → Int32) : St := (w.1, ua w.2 a g)
def sA (w : St) (a : Nat) (i v : Int32) : St := sG w a (upd (w.2 a) i.toNatClampNeg v)
/-- an index in a row -/
abbrev ib (i : Int32) (n : Nat) : Prop := ¬ i < 0 ∧ i.toNatClampNeg < n
theorem ib_in {i : Int32} {n : Nat} (h : ib i n) : vp_in i n := fun q => q.elim h.1 (fun z => absurd h.2 (Nat.not_lt.mpr z))
def lo_has (ls : Array Slot) (nL : Nat) (lo : List (Option Value)) : Prop := ls.size = nL ∧ lv_wf ls ∧ ∀ (i : Nat) (v : Value), lo[i]? = some (some v) → ls[i]? = some (.val v)
def lp (lo : List (Option Value)) : List (Nat × Value) := (List.range lo.length).filterMap (fun i => (lo.getD i none).map (fun v => (i, v)))
theorem mem_lp {lo : List (Option Value)} {i : Nat} {v : Value} : (i, v) ∈ lp lo ↔ lo[i]? = some (some v) := by
  unfold lp
  rw [List.mem_filterMap]
  constructor
  · rintro ⟨k, hk, h⟩
    rw [List.mem_range] at hk
    rw [Option.map_eq_some_iff] at h
    obtain ⟨u, h1, h2⟩ := h
    cases h2
    rw [List.getD_eq_getElem?_getD, List.getElem?_eq_getElem hk] at h1
    rw [List.getElem?_eq_getElem hk]
    exact congrArg some h1
  · intro h
    have hk := (List.getElem?_eq_some_iff.mp h).1
    refine ⟨i, List.mem_range.mpr hk, ?_⟩
    rw [List.getD_eq_getElem?_getD, h]
    rfl
theorem lo_lv {ls : Array Slot} {nL : Nat} {lo : List (Option Value)} (h : lo_has ls nL lo) : lv_has ls nL (lp lo) := ⟨h.1, h.2.1, fun q hq => h.2.2 q.1 q.2 (mem_lp.mp hq)⟩
def cat1 (lo : List (Option Value)) : Bool := lo.all (fun o => match o with
  | none => true
  | some v => v.category == 1)
theorem lo_sto {ls' : Array Slot} {nL i : Nat} {v : Value} {lo : List (Option Value)} (hc : cat1 lo = true) (h : lv_has ls' nL ((i, v) :: (lp lo).filter (fun q => !(q.1 == i) && !(q.1 + 1 == i && q.2.category == 2)))) : lo_has ls' nL (lo.set i (some v)) := by
  refine ⟨h.1, h.2.1, fun j u hj => ?_⟩
  by_cases e : j = i
  · subst e
    have hl : j < lo.length := by
      have := (List.getElem?_eq_some_iff.mp hj).1
      rwa [List.length_set] at this
    rw [List.getElem?_set_self hl] at hj
    cases hj
    exact h.2.2 (j, v) List.mem_cons_self
  · rw [List.getElem?_set_ne (Ne.symm e)] at hj
    refine h.2.2 (j, u) (List.mem_cons_of_mem _ (List.mem_filter.mpr ⟨mem_lp.mpr hj, ?_⟩))
    have h1 := List.all_eq_true.mp hc _ (List.mem_of_getElem? hj)
    have h2 : u.category = 1 := by simpa using h1
    simp [e, h2]
def lo0 (nL : Nat) (As : List Value) : List (Option Value) := As.map some ++ List.replicate (nL - As.length) none
theorem lg_sl_cat {As : List Value} (hc : As.all (fun v => v.category == 1) = true) : lg_sl As = As.map Slot.val := by
  induction As with
  | nil => rfl
  | cons v t ih =>
    rw [List.all_cons, Bool.and_eq_true] at hc
    have h1 : v.category = 1 := by simpa using hc.1
    have h2 := ih hc.2
    unfold lg_sl at h2 ⊢
    rw [List.flatMap_cons, h2, if_neg (by omega)]
    rfl
theorem lo_entry {As : List Value} {nL : Nat} (hc : As.all (fun v => v.category == 1) = true) (hn : As.length ≤ nL) : lo_has ((lg_sl As ++ List.replicate (nL - (lg_sl As).length) Slot.unset).toArray) nL (lo0 nL As) := by
  have hs := lg_sl_cat hc
  have hl := lv_entry As (n := nL) (by rw [hs, List.length_map]; exact hn)
  refine ⟨hl.1, hl.2.1, fun i v hi => ?_⟩
  rw [hs, List.getElem?_toArray]
  unfold lo0 at hi
  by_cases h : i < As.length
  · rw [List.getElem?_append_left (by rw [List.length_map]; exact h), List.getElem?_map, List.getElem?_eq_getElem h] at hi
    rw [List.getElem?_append_left (by rw [List.length_map]; exact h), List.getElem?_map, List.getElem?_eq_getElem h]
    cases hi
    rfl
  · rw [List.getElem?_append_right (by rw [List.length_map]; omega)] at hi
    have h3 := List.eq_of_mem_replicate (List.mem_of_getElem? hi)
    cases h3
section GG
variable {p : Program} {l : Launch} {e : Env} {R : Room} {s : State} {m : MethodId} {args : Array Value} {below : List Frame} {meth : Method} {c : Code} {D : va_G} {A : Nat → Prop} {nL : Nat} {Q : State → Prop} {wf : St → va_W} {cc : ByteArray} {own : String} {cI : ClassId × ClassId} {pc : Nat} {lo : List (Option Value)} {st : List Value} {w : St}
def gN (U : State) : Prop := (∀ q ∈ nsts, va_Nw (.methodLinkNest q.1 q.2.1 q.2.2.1 q.2.2.2) U) ∧ va_AO "ReachedHeap$State" U
theorem gN.warm {s U : State} (hW : s.WarmedH U.vm) (h : gN s) : gN U := ⟨fun q hq => va_Nw.warmM hW (h.1 q hq), va_AO.moved hW.alike h.2⟩
theorem gN.blind {U : State} {g : JFrame} {mk : MethodId} {a : Array Value} (h : gN U) : gN (U.calling g mk a) := ⟨fun q hq => va_Nw.same rfl rfl (h.1 q hq), va_AO.moved (u := U) (U := U.calling g mk a) (Vm.Alike.refl U.vm) h.2⟩
def gK (D : va_G) (cI : ClassId × ClassId) (U : State) : Prop := va_K D vwCl [(cI.1, .int), (cI.2, .object "ReachedHeap$State")] U ∧ gN U
theorem gK.warm {D : va_G} {cI : ClassId × ClassId} {s U : State} (hW : s.WarmedH U.vm) (h : gK D cI s) : gK D cI U := ⟨va_K.moved hW.alike h.1, h.2.warm hW⟩
theorem gK.blind {D : va_G} {cI : ClassId × ClassId} {U : State} {g : JFrame} {mk : MethodId} {a : Array Value} (h : gK D cI U) : gK D cI (U.calling g mk a) := ⟨va_K.moved (u := U) (U := U.calling g mk a) (Vm.Alike.refl U.vm) h.1, h.2.blind⟩
def gX (p : Program) (s : State) (m : MethodId) (args : Array Value) (meth : Method) (c : Code) (cc : ByteArray) (nL : Nat) (own : String) (D : va_G) (cI : ClassId × ClassId) : Prop :=
  p.tables.exec = Jvm.exec ∧ c.code = cc ∧ c.maxLocals = nL ∧ s.vm.findClass own = some m.cls ∧ (∀ w ∈ lw_g, w.before args s = true) ∧ gK D cI s ∧ meth.locks = false
def G (p : Program) (l : Launch) (e : Env) (R : Room) (s : State) (m : MethodId) (args : Array Value) (below : List Frame) (meth : Method) (c : Code) (D : va_G) (A : Nat → Prop) (nL : Nat) (Q : State → Prop) (wf : St → va_W) (pc : Nat) (lo : List (Option Value)) (st : List Value) (w : St) : Prop :=
  ∀ (H : Heap) (locs : List Loc) (ls : Array Slot), lo_has ls nL lo → va_P D vwCl (wf w) H → va_D A (wf w) → va_S A s.heap H locs → W p l e R s m args below meth c H locs 0 0 Q (F0 m pc ls st)
def gB (D : va_G) (cI : ClassId × ClassId) (A : Nat → Prop) (ws : va_W) (U : State) : Prop := va_P D vwCl ws U.heap ∧ gK D cI U ∧ va_D A ws
def qcI (D : va_G) (A : Nat → Prop) (r : Int32) (ws : va_W) : Array Value → State → Outcome → State → Prop := va_Qi (fun x (_ : Unit) => x = r) (fun _ t => va_P D vwCl ws t.heap ∧ va_D A ws) A
def qcV (D : va_G) (A : Nat → Prop) (ws : va_W) : Array Value → State → Outcome → State → Prop := va_Qv (fun (_ : Unit) => True) (fun _ t => va_P D vwCl ws t.heap ∧ va_D A ws) A
/-- a method's contract: from the world ws it returns the number r, and leaves the world ws' -/
def CTi (l : Launch) (D : va_G) (cI : ClassId × ClassId) (A : Nat → Prop) (y : MethodName) (b : ByteArray) (nL : Nat) (ret : Option FieldType) (rm : Room) (As : List Value) (ws : va_W) (r : Int32) (ws' : va_W) : Prop :=
  Met l y (.code y b nL ret :: lw_g) rm (va_Pc As (gB D cI A ws)) (qcI D A r ws') 0 0 A
def CTv (l : Launch) (D : va_G) (cI : ClassId × ClassId) (A : Nat → Prop) (y : MethodName) (b : ByteArray) (nL : Nat) (ret : Option FieldType) (rm : Room) (As : List Value) (ws ws' : va_W) : Prop :=
  Met l y (.code y b nL ret :: lw_g) rm (va_Pc As (gB D cI A ws)) (qcV D A ws') 0 0 A
theorem gB_blind {As : List Value} {ws : va_W} : FrameBlind (va_Pc As (gB D cI A ws)) := fun a U g mk q => ⟨q.1, q.2.1, gK.blind q.2.2.1, q.2.2.2⟩
theorem CTi.of {y : MethodName} {b : ByteArray} {ret : Option FieldType} {rm : Room} {As : List Value} {r : Int32} {ws' : va_W} (hpl : plainName y.cls = true) (hc : As.all (fun v => v.category == 1) = true) (hn : As.length ≤ nL)
    (h : ∀ (p : Program) (e : Env) (s : State) (m : MethodId) (args : Array Value) (below : List Frame) (meth : Method) (c : Code), gX p s m args meth c b nL y.cls D cI → meth.sig.returnType = ret → G p l e rm s m args below meth c D A nL (MQ below (qcI D A r ws') args s 0 0 A) wf 0 (lo0 nL As) [] w) : CTi l D cI A y b nL ret rm As (wf w) r ws' := by
  refine Met.ofW (cc := b) (maxL := nL) (ret := ret) hpl rfl ?_
  intro p e s m args below meth c s₁ B hml hv
  obtain ⟨rfl, hP, hK, hD⟩ := hv
  have hts := atoms_spec (ws := .code y b nL ret :: lw_g) B.pre
  have hx : gX p s m As.toArray meth c b nL y.cls D cI := ⟨B.exec, B.bytes, hml, findClass_of_methodNamed B.named, fun w hw => hts w (List.mem_cons_of_mem _ hw), hK, B.notSynchronized⟩
  rw [lg_entry_eq]
  exact h p e s m _ below meth c hx B.returns _ _ _ (lo_entry hc hn) hP hD va_S.rf
theorem CTv.of {y : MethodName} {b : ByteArray} {ret : Option FieldType} {rm : Room} {As : List Value} {ws' : va_W} (hpl : plainName y.cls = true) (hc : As.all (fun v => v.category == 1) = true) (hn : As.length ≤ nL)
    (h : ∀ (p : Program) (e : Env) (s : State) (m : MethodId) (args : Array Value) (below : List Frame) (meth : Method) (c : Code), gX p s m args meth c b nL y.cls D cI → meth.sig.returnType = ret → G p l e rm s m args below meth c D A nL (MQ below (qcV D A ws') args s 0 0 A) wf 0 (lo0 nL As) [] w) : CTv l D cI A y b nL ret rm As (wf w) ws' := by
  refine Met.ofW (cc := b) (maxL := nL) (ret := ret) hpl rfl ?_
  intro p e s m args below meth c s₁ B hml hv
  obtain ⟨rfl, hP, hK, hD⟩ := hv
  have hts := atoms_spec (ws := .code y b nL ret :: lw_g) B.pre
  have hx : gX p s m As.toArray meth c b nL y.cls D cI := ⟨B.exec, B.bytes, hml, findClass_of_methodNamed B.named, fun w hw => hts w (List.mem_cons_of_mem _ hw), hK, B.notSynchronized⟩
  rw [lg_entry_eq]
  exact h p e s m _ below meth c hx B.returns _ _ _ (lo_entry hc hn) hP hD va_S.rf
/-- fewer locals known -/
theorem g_sub {lo' : List (Option Value)} (h : ∀ (i : Nat) (v : Value), lo'[i]? = some (some v) → lo[i]? = some (some v)) (k : G p l e R s m args below meth c D A nL Q wf pc lo' st w) : G p l e R s m args below meth c D A nL Q wf pc lo st w :=
  fun H locs ls hl hP hD hS => k H locs ls ⟨hl.1, hl.2.1, fun i v q => hl.2.2 i v (h i v q)⟩ hP hD hS
theorem g_iconst (X : gX p s m args meth c cc nL own D cI) {n : Int} {v : Int32} (d : decode cc pc = .ok (.iconst n, 1)) (hv : Int32.ofInt n = v) (k : G p l e R s m args below meth c D A nL Q wf (pc + 1) lo (.int v :: st) w) : G p l e R s m args below meth c D A nL Q wf pc lo st w :=
  fun H locs ls hl hP hD hS => lv_iconst X.1 X.2.1 d hv (k H locs ls hl hP hD hS)
theorem g_bipush (X : gX p s m args meth c cc nL own D cI) {n : Int} {v : Int32} (d : decode cc pc = .ok (.bipush n, 2)) (hv : (Int8.ofInt n).toInt32 = v) (k : G p l e R s m args below meth c D A nL Q wf (pc + 2) lo (.int v :: st) w) : G p l e R s m args below meth c D A nL Q wf pc lo st w :=
  fun H locs ls hl hP hD hS => lv_bipush X.1 X.2.1 d hv (k H locs ls hl hP hD hS)
theorem g_sipush (X : gX p s m args meth c cc nL own D cI) {n : Int} {v : Int32} (d : decode cc pc = .ok (.sipush n, 3)) (hv : (Int16.ofInt n).toInt32 = v) (k : G p l e R s m args below meth c D A nL Q wf (pc + 3) lo (.int v :: st) w) : G p l e R s m args below meth c D A nL Q wf pc lo st w :=
  fun H locs ls hl hP hD hS => lv_sipush X.1 X.2.1 d hv (k H locs ls hl hP hD hS)
theorem g_ldcw (X : gX p s m args meth c cc nL own D cI) {n : Nat} {v : Int32} (d : decode cc pc = .ok (.ldc_w n, 3)) (hw : Cond.constant own n v ∈ lw_g) (k : G p l e R s m args below meth c D A nL Q wf (pc + 3) lo (.int v :: st) w) : G p l e R s m args below meth c D A nL Q wf pc lo st w :=
  fun H locs ls hl hP hD hS => lv_ldcw X.1 X.2.1 X.2.2.2.1 (X.2.2.2.2.1 _ hw) d (k H locs ls hl hP hD hS)
theorem g_iload_n (X : gX p s m args meth c cc nL own D cI) {k0 : Fin 4} {i : Nat} {x : Int32} (d : decode cc pc = .ok (.iload_n k0, 1)) (hi : (k0 : Nat) = i) (hl0 : lo[i]? = some (some (.int x))) (k : G p l e R s m args below meth c D A nL Q wf (pc + 1) lo (.int x :: st) w) : G p l e R s m args below meth c D A nL Q wf pc lo st w :=
  fun H locs ls hl hP hD hS => lv_iload_n X.1 X.2.1 d hi (hl.2.2 _ _ hl0) (k H locs ls hl hP hD hS)
theorem g_iload (X : gX p s m args meth c cc nL own D cI) {i : Nat} {x : Int32} (d : decode cc pc = .ok (.iload i, 2)) (hl0 : lo[i]? = some (some (.int x))) (k : G p l e R s m args below meth c D A nL Q wf (pc + 2) lo (.int x :: st) w) : G p l e R s m args below meth c D A nL Q wf pc lo st w :=
  fun H locs ls hl hP hD hS => lv_iload X.1 X.2.1 d (hl.2.2 _ _ hl0) (k H locs ls hl hP hD hS)
theorem g_aload_n (X : gX p s m args meth c cc nL own D cI) {k0 : Fin 4} {i : Nat} {x : Nat} (d : decode cc pc = .ok (.aload_n k0, 1)) (hi : (k0 : Nat) = i) (hl0 : lo[i]? = some (some (.ref x))) (k : G p l e R s m args below meth c D A nL Q wf (pc + 1) lo (.ref x :: st) w) : G p l e R s m args below meth c D A nL Q wf pc lo st w :=
  fun H locs ls hl hP hD hS => lv_aload_n X.1 X.2.1 d hi (hl.2.2 _ _ hl0) (k H locs ls hl hP hD hS)
theorem g_istore_n (X : gX p s m args meth c cc nL own D cI) {k0 : Fin 4} {i : Nat} {x : Int32} (d : decode cc pc = .ok (.istore_n k0, 1)) (hi : (k0 : Nat) = i) (hn : i < nL) (hc : cat1 lo = true) (k : G p l e R s m args below meth c D A nL Q wf (pc + 1) (lo.set i (some (.int x))) st w) : G p l e R s m args below meth c D A nL Q wf pc lo (.int x :: st) w :=
  fun H locs ls hl hP hD hS => lv_istore_n X.1 X.2.1 d hi (lo_lv hl) hn rfl (fun ls1 hl1 => k H locs ls1 (lo_sto hc hl1) hP hD hS)
theorem g_istore (X : gX p s m args meth c cc nL own D cI) {i : Nat} {x : Int32} (d : decode cc pc = .ok (.istore i, 2)) (hn : i < nL) (hc : cat1 lo = true) (k : G p l e R s m args below meth c D A nL Q wf (pc + 2) (lo.set i (some (.int x))) st w) : G p l e R s m args below meth c D A nL Q wf pc lo (.int x :: st) w :=
  fun H locs ls hl hP hD hS => lv_istore X.1 X.2.1 d (lo_lv hl) hn rfl (fun ls1 hl1 => k H locs ls1 (lo_sto hc hl1) hP hD hS)
theorem g_astore_n (X : gX p s m args meth c cc nL own D cI) {k0 : Fin 4} {i : Nat} {x : Nat} (d : decode cc pc = .ok (.astore_n k0, 1)) (hi : (k0 : Nat) = i) (hn : i < nL) (hc : cat1 lo = true) (k : G p l e R s m args below meth c D A nL Q wf (pc + 1) (lo.set i (some (.ref x))) st w) : G p l e R s m args below meth c D A nL Q wf pc lo (.ref x :: st) w :=
  fun H locs ls hl hP hD hS => lv_astore_n X.1 X.2.1 d hi (lo_lv hl) hn rfl (fun ls1 hl1 => k H locs ls1 (lo_sto hc hl1) hP hD hS)
theorem g_iinc (X : gX p s m args meth c cc nL own D cI) {i : Nat} {n : Int} {x v : Int32} (d : decode cc pc = .ok (.iinc i n, 3)) (hl0 : lo[i]? = some (some (.int x))) (hv : Int32.ofInt n = v) (hn : i < nL) (hc : cat1 lo = true) (k : G p l e R s m args below meth c D A nL Q wf (pc + 3) (lo.set i (some (.int (x + v)))) st w) : G p l e R s m args below meth c D A nL Q wf pc lo st w := by
  subst hv
  intro H locs ls hl hP hD hS
  obtain ⟨kk, hk⟩ := List.getElem?_of_mem (mem_lp.mpr hl0)
  exact lv_iinc X.1 X.2.1 d (lo_lv hl) hk rfl hn rfl (fun ls1 hl1 => k H locs ls1 (lo_sto hc hl1) hP hD hS)
theorem g_iadd (X : gX p s m args meth c cc nL own D cI) {x y : Int32} (d : decode cc pc = .ok (.iadd, 1)) (k : G p l e R s m args below meth c D A nL Q wf (pc + 1) lo (.int (x + y) :: st) w) : G p l e R s m args below meth c D A nL Q wf pc lo (.int y :: .int x :: st) w :=
  fun H locs ls hl hP hD hS => lv_iadd X.1 X.2.1 d (k H locs ls hl hP hD hS)
theorem g_isub (X : gX p s m args meth c cc nL own D cI) {x y : Int32} (d : decode cc pc = .ok (.isub, 1)) (k : G p l e R s m args below meth c D A nL Q wf (pc + 1) lo (.int (x - y) :: st) w) : G p l e R s m args below meth c D A nL Q wf pc lo (.int y :: .int x :: st) w :=
  fun H locs ls hl hP hD hS => lv_isub X.1 X.2.1 d (k H locs ls hl hP hD hS)
theorem g_imul (X : gX p s m args meth c cc nL own D cI) {x y : Int32} (d : decode cc pc = .ok (.imul, 1)) (k : G p l e R s m args below meth c D A nL Q wf (pc + 1) lo (.int (x * y) :: st) w) : G p l e R s m args below meth c D A nL Q wf pc lo (.int y :: .int x :: st) w :=
  fun H locs ls hl hP hD hS => lv_imul X.1 X.2.1 d (k H locs ls hl hP hD hS)
theorem g_iand (X : gX p s m args meth c cc nL own D cI) {x y : Int32} (d : decode cc pc = .ok (.iand, 1)) (k : G p l e R s m args below meth c D A nL Q wf (pc + 1) lo (.int (x &&& y) :: st) w) : G p l e R s m args below meth c D A nL Q wf pc lo (.int y :: .int x :: st) w :=
  fun H locs ls hl hP hD hS => lv_iand X.1 X.2.1 d (k H locs ls hl hP hD hS)
theorem g_ior (X : gX p s m args meth c cc nL own D cI) {x y : Int32} (d : decode cc pc = .ok (.ior, 1)) (k : G p l e R s m args below meth c D A nL Q wf (pc + 1) lo (.int (x ||| y) :: st) w) : G p l e R s m args below meth c D A nL Q wf pc lo (.int y :: .int x :: st) w :=
  fun H locs ls hl hP hD hS => lv_ior X.1 X.2.1 d (k H locs ls hl hP hD hS)
theorem g_ixor (X : gX p s m args meth c cc nL own D cI) {x y : Int32} (d : decode cc pc = .ok (.ixor, 1)) (k : G p l e R s m args below meth c D A nL Q wf (pc + 1) lo (.int (x ^^^ y) :: st) w) : G p l e R s m args below meth c D A nL Q wf pc lo (.int y :: .int x :: st) w :=
  fun H locs ls hl hP hD hS => lv_ixor X.1 X.2.1 d (k H locs ls hl hP hD hS)
theorem g_ishl (X : gX p s m args meth c cc nL own D cI) {x y : Int32} (d : decode cc pc = .ok (.ishl, 1)) (k : G p l e R s m args below meth c D A nL Q wf (pc + 1) lo (.int (x <<< (y &&& 31)) :: st) w) : G p l e R s m args below meth c D A nL Q wf pc lo (.int y :: .int x :: st) w :=
  fun H locs ls hl hP hD hS => lv_ishl X.1 X.2.1 d (k H locs ls hl hP hD hS)
theorem g_ishr (X : gX p s m args meth c cc nL own D cI) {x y : Int32} (d : decode cc pc = .ok (.ishr, 1)) (k : G p l e R s m args below meth c D A nL Q wf (pc + 1) lo (.int (x >>> (y &&& 31)) :: st) w) : G p l e R s m args below meth c D A nL Q wf pc lo (.int y :: .int x :: st) w :=
  fun H locs ls hl hP hD hS => lv_ishr X.1 X.2.1 d (k H locs ls hl hP hD hS)
theorem g_idiv (X : gX p s m args meth c cc nL own D cI) {x y : Int32} (d : decode cc pc = .ok (.idiv, 1)) (hy : ¬ y = 0) (k : G p l e R s m args below meth c D A nL Q wf (pc + 1) lo (.int (x / y) :: st) w) : G p l e R s m args below meth c D A nL Q wf pc lo (.int y :: .int x :: st) w :=
  fun H locs ls hl hP hD hS => lv_idiv X.1 X.2.1 d hy (k H locs ls hl hP hD hS)
theorem g_irem (X : gX p s m args meth c cc nL own D cI) {x y : Int32} (d : decode cc pc = .ok (.irem, 1)) (hy : ¬ y = 0) (k : G p l e R s m args below meth c D A nL Q wf (pc + 1) lo (.int (x - x / y * y) :: st) w) : G p l e R s m args below meth c D A nL Q wf pc lo (.int y :: .int x :: st) w :=
  fun H locs ls hl hP hD hS => lv_irem X.1 X.2.1 d hy (k H locs ls hl hP hD hS)
theorem g_iushr (X : gX p s m args meth c cc nL own D cI) {x y : Int32} (d : decode cc pc = .ok (.iushr, 1)) (k : G p l e R s m args below meth c D A nL Q wf (pc + 1) lo (.int ((x.toUInt32 >>> (y.toUInt32 &&& Int32.toUInt32 31)).toInt32) :: st) w) : G p l e R s m args below meth c D A nL Q wf pc lo (.int y :: .int x :: st) w :=
  fun H locs ls hl hP hD hS => lv_iushr X.1 X.2.1 d rfl (k H locs ls hl hP hD hS)
theorem g_dup (X : gX p s m args meth c cc nL own D cI) {v : Value} (d : decode cc pc = .ok (.dup, 1)) (hv : v.category = 1) (k : G p l e R s m args below meth c D A nL Q wf (pc + 1) lo (v :: v :: st) w) : G p l e R s m args below meth c D A nL Q wf pc lo (v :: st) w :=
  fun H locs ls hl hP hD hS => lv_dup X.1 X.2.1 d hv (k H locs ls hl hP hD hS)
theorem g_dup2 (X : gX p s m args meth c cc nL own D cI) {v u : Value} (d : decode cc pc = .ok (.dup2, 1)) (hv : v.category = 1) (hu : u.category = 1) (k : G p l e R s m args below meth c D A nL Q wf (pc + 1) lo (v :: u :: v :: u :: st) w) : G p l e R s m args below meth c D A nL Q wf pc lo (v :: u :: st) w :=
  fun H locs ls hl hP hD hS => lv_dup2_11 X.1 X.2.1 d hv hu (k H locs ls hl hP hD hS)
theorem g_pop (X : gX p s m args meth c cc nL own D cI) {v : Value} (d : decode cc pc = .ok (.pop, 1)) (hv : v.category = 1) (k : G p l e R s m args below meth c D A nL Q wf (pc + 1) lo st w) : G p l e R s m args below meth c D A nL Q wf pc lo (v :: st) w :=
  fun H locs ls hl hP hD hS => lv_pop X.1 X.2.1 d hv (k H locs ls hl hP hD hS)
theorem g_goto (X : gX p s m args meth c cc nL own D cI) {off : Int} {tgt : Nat} (d : decode cc pc = .ok (.goto off, 3)) (ht : (pc : Int) + off = (tgt : Int)) (k : G p l e R s m args below meth c D A nL Q wf tgt lo st w) : G p l e R s m args below meth c D A nL Q wf pc lo st w :=
  fun H locs ls hl hP hD hS => lv_goto X.1 X.2.1 d ht (k H locs ls hl hP hD hS)
theorem hfp {β : Type} {q : Prop} {_ : Decidable q} {F1 F2 : Option β} {o : β} (hf : (if q then F1 else F2) = some o) (h : q) : F1 = some o := by rw [if_pos h] at hf; exact hf
theorem hfn {β : Type} {q : Prop} {_ : Decidable q} {F1 F2 : Option β} {o : β} (hf : (if q then F1 else F2) = some o) (h : ¬ q) : F2 = some o := by rw [if_neg h] at hf; exact hf
theorem hfb {β γ : Type} {F : Option β} {g : β → Option γ} {o : γ} (hf : F.bind g = some o) : ∃ b, F = some b ∧ g b = some o := Option.bind_eq_some_iff.mp hf
theorem hfg {β : Type} {q : Prop} {_ : Decidable q} {F1 : Option β} {o : β} (hf : (if q then F1 else none) = some o) : q ∧ F1 = some o := by
  by_cases h : q
  · rw [if_pos h] at hf; exact ⟨h, hf⟩
  · rw [if_neg h] at hf; cases hf
theorem hfi {β : Type} {q : Prop} {_ : Decidable q} {F1 F2 : Option β} {o : β} (hf : (if q then F1 else F2) = some o) : (q ∧ F1 = some o) ∨ (¬ q ∧ F2 = some o) := by
  by_cases h : q
  · rw [if_pos h] at hf; exact Or.inl ⟨h, hf⟩
  · rw [if_neg h] at hf; exact Or.inr ⟨h, hf⟩
def BIG : Nat := 100000
abbrev cpb (sp dp n : Int32) (n0 n1 : Nat) : Prop := ¬ sp < 0 ∧ ¬ dp < 0 ∧ ¬ n < 0 ∧ sp.toNatClampNeg + n.toNatClampNeg ≤ n0 ∧ dp.toNatClampNeg + n.toNatClampNeg ≤ n1
def losubP : List (Option Value) → List (Option Value) → Prop
  | [], _ => True
  | none :: t, _ :: u => losubP t u
  | none :: t, [] => losubP t []
  | some v :: t, o :: u => o = some v ∧ losubP t u
  | some _ :: _, [] => False
theorem losub {lo' lo : List (Option Value)} (h : losubP lo' lo) : ∀ (i : Nat) (v : Value), lo'[i]? = some (some v) → lo[i]? = some (some v) := by
  induction lo' generalizing lo with
  | nil => intro i v q; simp at q
  | cons a t ih =>
    intro i v q
    cases a with
    | none =>
      cases lo with
      | nil =>
        cases i with
        | zero => simp at q
        | succ i => exact absurd (ih (lo := []) h i v (by simpa using q)) (by simp)
      | cons b u =>
        cases i with
        | zero => simp at q
        | succ i => simpa using ih (lo := u) h i v (by simpa using q)
    | some x =>
      cases lo with
      | nil => exact absurd h (by simp [losubP])
      | cons b u =>
        obtain ⟨h1, h2⟩ := h
        cases i with
        | zero => simp at q; simp [h1, q]
        | succ i => simpa using ih (lo := u) h2 i v (by simpa using q)
theorem sw_out (x : Int32) (lw hi : Int) (vs : List Int32) (hv : (List.range (hi - lw + 1).toNat).map (fun k => lw + Int.ofNat k) = vs.map Int32.toInt) (h : ∀ v ∈ vs, ¬ x = v) : x.toInt < lw ∨ hi < x.toInt := by
  rcases Int.lt_or_le x.toInt lw with h1 | h1
  · exact Or.inl h1
  rcases Int.lt_or_le hi x.toInt with h2 | h2
  · exact Or.inr h2
  exfalso
  have hm : x.toInt ∈ (List.range (hi - lw + 1).toNat).map (fun k => lw + Int.ofNat k) := List.mem_map.mpr ⟨(x.toInt - lw).toNat, List.mem_range.mpr (by omega), by show lw + ((x.toInt - lw).toNat : Int) = _; omega⟩
  rw [hv] at hm
  obtain ⟨v, hv1, hv2⟩ := List.mem_map.mp hm
  exact h v hv1 (Int32.toInt_inj.mp hv2.symm)
theorem nle {x y : Int32} (h : x ≤ y) : ¬ y < x := Int32.not_lt.mpr h
theorem nnl {x y : Int32} (h : ¬ x ≤ y) : y < x := Int32.not_le.mp h
theorem g_if_eq (X : gX p s m args meth c cc nL own D cI) {x : Int32} {off : Int} {tgt : Nat} {β : Type} {F1 F2 : Option β} {o : β} (d : decode cc pc = .ok (.ifCond .eq off, 3)) (ht : (pc : Int) + off = (tgt : Int)) (hf : (if x = 0 then F1 else F2) = some o) (k1 : (x = 0) → F1 = some o → G p l e R s m args below meth c D A nL Q wf tgt lo st w) (k2 : ¬ (x = 0) → F2 = some o → G p l e R s m args below meth c D A nL Q wf (pc + 3) lo st w) : G p l e R s m args below meth c D A nL Q wf pc lo (.int x :: st) w :=
  fun H locs ls hl hP hD hS => lv_if_eq X.1 X.2.1 d ht (fun a => k1 a (hfp hf a) H locs ls hl hP hD hS) (fun a => k2 a (hfn hf a) H locs ls hl hP hD hS)
theorem g_if_ne (X : gX p s m args meth c cc nL own D cI) {x : Int32} {off : Int} {tgt : Nat} {β : Type} {F1 F2 : Option β} {o : β} (d : decode cc pc = .ok (.ifCond .ne off, 3)) (ht : (pc : Int) + off = (tgt : Int)) (hf : (if x = 0 then F1 else F2) = some o) (k1 : (x = 0) → F1 = some o → G p l e R s m args below meth c D A nL Q wf (pc + 3) lo st w) (k2 : ¬ (x = 0) → F2 = some o → G p l e R s m args below meth c D A nL Q wf tgt lo st w) : G p l e R s m args below meth c D A nL Q wf pc lo (.int x :: st) w :=
  fun H locs ls hl hP hD hS => lv_if_ne X.1 X.2.1 d ht (fun a => k2 a (hfn hf a) H locs ls hl hP hD hS) (fun a => k1 a (hfp hf a) H locs ls hl hP hD hS)
theorem g_if_lt (X : gX p s m args meth c cc nL own D cI) {x : Int32} {off : Int} {tgt : Nat} {β : Type} {F1 F2 : Option β} {o : β} (d : decode cc pc = .ok (.ifCond .lt off, 3)) (ht : (pc : Int) + off = (tgt : Int)) (hf : (if x < 0 then F1 else F2) = some o) (k1 : (x < 0) → F1 = some o → G p l e R s m args below meth c D A nL Q wf tgt lo st w) (k2 : ¬ (x < 0) → F2 = some o → G p l e R s m args below meth c D A nL Q wf (pc + 3) lo st w) : G p l e R s m args below meth c D A nL Q wf pc lo (.int x :: st) w :=
  fun H locs ls hl hP hD hS => lv_if_lt X.1 X.2.1 d ht (fun a => k1 a (hfp hf a) H locs ls hl hP hD hS) (fun a => k2 a (hfn hf a) H locs ls hl hP hD hS)
theorem g_if_ge (X : gX p s m args meth c cc nL own D cI) {x : Int32} {off : Int} {tgt : Nat} {β : Type} {F1 F2 : Option β} {o : β} (d : decode cc pc = .ok (.ifCond .ge off, 3)) (ht : (pc : Int) + off = (tgt : Int)) (hf : (if x < 0 then F1 else F2) = some o) (k1 : (x < 0) → F1 = some o → G p l e R s m args below meth c D A nL Q wf (pc + 3) lo st w) (k2 : ¬ (x < 0) → F2 = some o → G p l e R s m args below meth c D A nL Q wf tgt lo st w) : G p l e R s m args below meth c D A nL Q wf pc lo (.int x :: st) w :=
  fun H locs ls hl hP hD hS => lv_if_ge X.1 X.2.1 d ht (fun a => k2 (nle a) (hfn hf (nle a)) H locs ls hl hP hD hS) (fun a => k1 (nnl a) (hfp hf (nnl a)) H locs ls hl hP hD hS)
theorem g_if_gt (X : gX p s m args meth c cc nL own D cI) {x : Int32} {off : Int} {tgt : Nat} {β : Type} {F1 F2 : Option β} {o : β} (d : decode cc pc = .ok (.ifCond .gt off, 3)) (ht : (pc : Int) + off = (tgt : Int)) (hf : (if 0 < x then F1 else F2) = some o) (k1 : (0 < x) → F1 = some o → G p l e R s m args below meth c D A nL Q wf tgt lo st w) (k2 : ¬ (0 < x) → F2 = some o → G p l e R s m args below meth c D A nL Q wf (pc + 3) lo st w) : G p l e R s m args below meth c D A nL Q wf pc lo (.int x :: st) w :=
  fun H locs ls hl hP hD hS => lv_if_gt X.1 X.2.1 d ht (fun a => k1 a (hfp hf a) H locs ls hl hP hD hS) (fun a => k2 a (hfn hf a) H locs ls hl hP hD hS)
theorem g_if_le (X : gX p s m args meth c cc nL own D cI) {x : Int32} {off : Int} {tgt : Nat} {β : Type} {F1 F2 : Option β} {o : β} (d : decode cc pc = .ok (.ifCond .le off, 3)) (ht : (pc : Int) + off = (tgt : Int)) (hf : (if 0 < x then F1 else F2) = some o) (k1 : (0 < x) → F1 = some o → G p l e R s m args below meth c D A nL Q wf (pc + 3) lo st w) (k2 : ¬ (0 < x) → F2 = some o → G p l e R s m args below meth c D A nL Q wf tgt lo st w) : G p l e R s m args below meth c D A nL Q wf pc lo (.int x :: st) w :=
  fun H locs ls hl hP hD hS => lv_if_le X.1 X.2.1 d ht (fun a => k2 (nle a) (hfn hf (nle a)) H locs ls hl hP hD hS) (fun a => k1 (nnl a) (hfp hf (nnl a)) H locs ls hl hP hD hS)
theorem g_icmp_eq (X : gX p s m args meth c cc nL own D cI) {x y : Int32} {off : Int} {tgt : Nat} {β : Type} {F1 F2 : Option β} {o : β} (d : decode cc pc = .ok (.if_icmp .eq off, 3)) (ht : (pc : Int) + off = (tgt : Int)) (hf : (if x = y then F1 else F2) = some o) (k1 : (x = y) → F1 = some o → G p l e R s m args below meth c D A nL Q wf tgt lo st w) (k2 : ¬ (x = y) → F2 = some o → G p l e R s m args below meth c D A nL Q wf (pc + 3) lo st w) : G p l e R s m args below meth c D A nL Q wf pc lo (.int y :: .int x :: st) w :=
  fun H locs ls hl hP hD hS => lv_icmp_eq X.1 X.2.1 d ht (fun a => k1 a (hfp hf a) H locs ls hl hP hD hS) (fun a => k2 a (hfn hf a) H locs ls hl hP hD hS)
theorem g_icmp_ne (X : gX p s m args meth c cc nL own D cI) {x y : Int32} {off : Int} {tgt : Nat} {β : Type} {F1 F2 : Option β} {o : β} (d : decode cc pc = .ok (.if_icmp .ne off, 3)) (ht : (pc : Int) + off = (tgt : Int)) (hf : (if x = y then F1 else F2) = some o) (k1 : (x = y) → F1 = some o → G p l e R s m args below meth c D A nL Q wf (pc + 3) lo st w) (k2 : ¬ (x = y) → F2 = some o → G p l e R s m args below meth c D A nL Q wf tgt lo st w) : G p l e R s m args below meth c D A nL Q wf pc lo (.int y :: .int x :: st) w :=
  fun H locs ls hl hP hD hS => lv_icmp_ne X.1 X.2.1 d ht (fun a => k2 a (hfn hf a) H locs ls hl hP hD hS) (fun a => k1 a (hfp hf a) H locs ls hl hP hD hS)
theorem g_icmp_lt (X : gX p s m args meth c cc nL own D cI) {x y : Int32} {off : Int} {tgt : Nat} {β : Type} {F1 F2 : Option β} {o : β} (d : decode cc pc = .ok (.if_icmp .lt off, 3)) (ht : (pc : Int) + off = (tgt : Int)) (hf : (if x < y then F1 else F2) = some o) (k1 : (x < y) → F1 = some o → G p l e R s m args below meth c D A nL Q wf tgt lo st w) (k2 : ¬ (x < y) → F2 = some o → G p l e R s m args below meth c D A nL Q wf (pc + 3) lo st w) : G p l e R s m args below meth c D A nL Q wf pc lo (.int y :: .int x :: st) w :=
  fun H locs ls hl hP hD hS => lv_icmp_lt X.1 X.2.1 d ht (fun a => k1 a (hfp hf a) H locs ls hl hP hD hS) (fun a => k2 a (hfn hf a) H locs ls hl hP hD hS)
theorem g_icmp_ge (X : gX p s m args meth c cc nL own D cI) {x y : Int32} {off : Int} {tgt : Nat} {β : Type} {F1 F2 : Option β} {o : β} (d : decode cc pc = .ok (.if_icmp .ge off, 3)) (ht : (pc : Int) + off = (tgt : Int)) (hf : (if x < y then F1 else F2) = some o) (k1 : (x < y) → F1 = some o → G p l e R s m args below meth c D A nL Q wf (pc + 3) lo st w) (k2 : ¬ (x < y) → F2 = some o → G p l e R s m args below meth c D A nL Q wf tgt lo st w) : G p l e R s m args below meth c D A nL Q wf pc lo (.int y :: .int x :: st) w :=
  fun H locs ls hl hP hD hS => lv_icmp_ge X.1 X.2.1 d ht (fun a => k2 (nle a) (hfn hf (nle a)) H locs ls hl hP hD hS) (fun a => k1 (nnl a) (hfp hf (nnl a)) H locs ls hl hP hD hS)
theorem g_icmp_gt (X : gX p s m args meth c cc nL own D cI) {x y : Int32} {off : Int} {tgt : Nat} {β : Type} {F1 F2 : Option β} {o : β} (d : decode cc pc = .ok (.if_icmp .gt off, 3)) (ht : (pc : Int) + off = (tgt : Int)) (hf : (if y < x then F1 else F2) = some o) (k1 : (y < x) → F1 = some o → G p l e R s m args below meth c D A nL Q wf tgt lo st w) (k2 : ¬ (y < x) → F2 = some o → G p l e R s m args below meth c D A nL Q wf (pc + 3) lo st w) : G p l e R s m args below meth c D A nL Q wf pc lo (.int y :: .int x :: st) w :=
  fun H locs ls hl hP hD hS => lv_icmp_gt X.1 X.2.1 d ht (fun a => k1 a (hfp hf a) H locs ls hl hP hD hS) (fun a => k2 a (hfn hf a) H locs ls hl hP hD hS)
theorem g_icmp_le (X : gX p s m args meth c cc nL own D cI) {x y : Int32} {off : Int} {tgt : Nat} {β : Type} {F1 F2 : Option β} {o : β} (d : decode cc pc = .ok (.if_icmp .le off, 3)) (ht : (pc : Int) + off = (tgt : Int)) (hf : (if y < x then F1 else F2) = some o) (k1 : (y < x) → F1 = some o → G p l e R s m args below meth c D A nL Q wf (pc + 3) lo st w) (k2 : ¬ (y < x) → F2 = some o → G p l e R s m args below meth c D A nL Q wf tgt lo st w) : G p l e R s m args below meth c D A nL Q wf pc lo (.int y :: .int x :: st) w :=
  fun H locs ls hl hP hD hS => lv_icmp_le X.1 X.2.1 d ht (fun a => k2 (nle a) (hfn hf (nle a)) H locs ls hl hP hD hS) (fun a => k1 (nnl a) (hfp hf (nnl a)) H locs ls hl hP hD hS)
theorem g_lookup (X : gX p s m args meth c cc nL own D cI) {dflt : Int} {ps : Array (Int × Int)} {len : Nat} {x : Int32} {off : Int} {tgt : Nat} (d : decode cc pc = .ok (.lookupswitch dflt ps, len)) (hp : (ps.toList.zip (ps.toList.drop 1)).all (fun (a, next) => a.1 < next.1) = true) (ho : Op.lookupswitch.offset ps.toList dflt x.toInt = off) (ht : (pc : Int) + off = (tgt : Int)) (k : G p l e R s m args below meth c D A nL Q wf tgt lo st w) : G p l e R s m args below meth c D A nL Q wf pc lo (.int x :: st) w :=
  fun H locs ls hl hP hD hS => lv_lookup X.1 X.2.1 d hp ho ht (k H locs ls hl hP hD hS)
theorem g_tableIn (X : gX p s m args meth c cc nL own D cI) {dflt lw hi : Int} {offs : Array Int} {len : Nat} {x : Int32} {off : Int} {tgt : Nat} (d : decode cc pc = .ok (.tableswitch dflt lw hi offs, len)) (h1 : ¬ x.toInt < lw) (h2 : ¬ hi < x.toInt) (ho : offs[(x.toInt - lw).toNat]? = some off) (ht : (pc : Int) + off = (tgt : Int)) (k : G p l e R s m args below meth c D A nL Q wf tgt lo st w) : G p l e R s m args below meth c D A nL Q wf pc lo (.int x :: st) w :=
  fun H locs ls hl hP hD hS => lv_tableIn X.1 X.2.1 d h1 h2 ho ht (k H locs ls hl hP hD hS)
theorem g_tableOut (X : gX p s m args meth c cc nL own D cI) {dflt lw hi : Int} {offs : Array Int} {len : Nat} {x : Int32} {tgt : Nat} (d : decode cc pc = .ok (.tableswitch dflt lw hi offs, len)) (h : x.toInt < lw ∨ hi < x.toInt) (ht : (pc : Int) + dflt = (tgt : Int)) (k : G p l e R s m args below meth c D A nL Q wf tgt lo st w) : G p l e R s m args below meth c D A nL Q wf pc lo (.int x :: st) w :=
  fun H locs ls hl hP hD hS => lv_tableOut X.1 X.2.1 d h ht (k H locs ls hl hP hD hS)
/-- a class of the world's: its words, its fields -/
def gC (C : String) (T : u_T) (N : Nat) (ty0 : Nat → FieldType) : Prop := (∀ w ∈ u_ws C T N, w ∈ lw_g) ∧ (∀ k, k < N → parseFieldDescriptor (T k).2.2.1 = some (ty0 k)) ∧ (∀ a, a < N → ∀ b, b < N → a ≠ b → (T a).2.1 ≠ (T b).2.1)
theorem g_get (X : gX p s m args meth c cc nL own D cI) {C ref : String} {T : u_T} {ty0 : Nat → FieldType} {N ci index q0 a : Nat} {fs : List Value} {v : Value} (k0 : Nat) (d : decode cc pc = .ok (.getfield index, 3)) (hC : gC C T N ty0) (he : (wf w)[q0]? = some (a, .inr (ci, fs))) (hc : vwCl[ci]? = some (C, T, N)) (hk : k0 < N) (hw : Cond.fieldLink own index ref (T k0).2.1 (T k0).2.2.1 ∈ lw_g) (href : (T k0).1 = ref) (hv : fs[k0]? = some v) (k : G p l e R s m args below meth c D A nL Q wf (pc + 3) lo (v :: st) w) : G p l e R s m args below meth c D A nL Q wf pc lo (.ref a :: st) w :=
  fun H locs ls hl hP hD hS => va_get X.1 X.2.1 X.2.2.2.2.1 hC.1 X.2.2.2.1 X.2.2.2.2.2.1.1 hP q0 he hc k0 hk (X.2.2.2.2.1 _ hw) (fun _ h => href ▸ h) hv d (k H locs ls hl hP hD hS)
theorem g_put (X : gX p s m args meth c cc nL own D cI) {C ref : String} {T : u_T} {ty0 : Nat → FieldType} {N ci index q0 a : Nat} {fs : List Value} {v : Value} {w' : St} (k0 : Nat) (d : decode cc pc = .ok (.putfield index, 3)) (hC : gC C T N ty0) (he : (wf w)[q0]? = some (a, .inr (ci, fs))) (hc : vwCl[ci]? = some (C, T, N)) (hk : k0 < N) (hw : Cond.fieldLink own index ref (T k0).2.1 (T k0).2.2.1 ∈ lw_g) (href : (T k0).1 = ref) (hfin : (T k0).2.2.2 = false) (hn : narrow (ty0 k0) v = v) (hfit : fits (ty0 k0) v = true) (hl0 : k0 < fs.length) (hw' : (wf w).set q0 (a, .inr (ci, fs.set k0 v)) = wf w') (k : G p l e R s m args below meth c D A nL Q wf (pc + 3) lo st w') : G p l e R s m args below meth c D A nL Q wf pc lo (v :: .ref a :: st) w := by
  intro H locs ls hl hP hD hS
  refine va_put X.1 X.2.1 X.2.2.2.2.1 hC.1 ty0 hC.2.1 hC.2.2 X.2.2.2.1 X.2.2.2.2.2.1.1 hP hD hS q0 he hc k0 hk (X.2.2.2.2.1 _ hw) (fun _ h => href ▸ h) hfin (hC.2.1 k0 hk) hn hfit hl0 d (fun H1 locs1 hP1 hD1 hS1 => ?_)
  rw [hw'] at hP1 hD1
  exact k H1 locs1 ls hl hP1 hD1 hS1
theorem g_iald (X : gX p s m args meth c cc nL own D cI) {q0 a n : Nat} {f : Nat → Int32} {i : Int32} (d : decode cc pc = .ok (.iaload, 1)) (he : (wf w)[q0]? = some (a, .inl (cI.1, n, .inl f))) (hi : ib i n) (k : G p l e R s m args below meth c D A nL Q wf (pc + 1) lo (.int (f i.toNatClampNeg) :: st) w) : G p l e R s m args below meth c D A nL Q wf pc lo (.int i :: .ref a :: st) w :=
  fun H locs ls hl hP hD hS => va_iald X.1 X.2.1 X.2.2.2.2.2.1.1 hP q0 0 he rfl (ib_in hi) d (k H locs ls hl hP hD hS)
theorem g_iast (X : gX p s m args meth c cc nL own D cI) {q0 a n : Nat} {f : Nat → Int32} {i x : Int32} {w' : St} (d : decode cc pc = .ok (.iastore, 1)) (he : (wf w)[q0]? = some (a, .inl (cI.1, n, .inl f))) (hi : ib i n) (hw' : (wf w).set q0 (a, .inl (cI.1, n, .inl (upd f i.toNatClampNeg x))) = wf w') (k : G p l e R s m args below meth c D A nL Q wf (pc + 1) lo st w') : G p l e R s m args below meth c D A nL Q wf pc lo (.int x :: .int i :: .ref a :: st) w := by
  intro H locs ls hl hP hD hS
  refine va_iast X.1 X.2.1 X.2.2.2.2.2.1.1 hP hD hS q0 0 he rfl (ib_in hi) d (fun H1 locs1 hP1 hD1 hS1 => ?_)
  rw [hw'] at hP1 hD1
  exact k H1 locs1 ls hl hP1 hD1 hS1
theorem g_alen (X : gX p s m args meth c cc nL own D cI) {q0 a n : Nat} {f : Nat → Int32} {v : Int32} (d : decode cc pc = .ok (.arraylength, 1)) (he : (wf w)[q0]? = some (a, .inl (cI.1, n, .inl f))) (hv : Int32.ofNat n = v) (k : G p l e R s m args below meth c D A nL Q wf (pc + 1) lo (.int v :: st) w) : G p l e R s m args below meth c D A nL Q wf pc lo (.ref a :: st) w :=
  fun H locs ls hl hP hD hS => va_alen X.1 X.2.1 X.2.2.2.2.2.1.1 hP q0 0 he rfl hv d (k H locs ls hl hP hD hS)
theorem g_copy (X : gX p s m args meth c cc nL own D cI) {q0 q1 a0 a index n0 n1 : Nat} {f g : Nat → Int32} {sp dp n : Int32} {w' : St} (d : decode cc pc = .ok (.invokestatic index, 3)) (hw : (Cond.methodLink own index arraycopyName) ∈ lw_g) (hnat : Cond.native arraycopyName ∈ lw_g) (hst : Cond.static arraycopyName ∈ lw_g) (hini : Cond.initialized "java/lang/System" ∈ lw_g) (ha0 : (wf w)[q0]? = some (a0, .inl (cI.1, n0, .inl f))) (ha1 : (wf w)[q1]? = some (a, .inl (cI.1, n1, .inl g))) (h1 : ¬ sp < 0) (h2 : ¬ dp < 0) (h3 : ¬ n < 0) (h4 : sp.toNatClampNeg + n.toNatClampNeg ≤ n0) (h5 : dp.toNatClampNeg + n.toNatClampNeg ≤ n1) (hR : 1 ≤ R.frames ∧ (st.map fun v => v.category).sum + (nativeFrameWords "java/lang/System" "arraycopy" 5 + 11) ≤ R.locals) (hw' : (wf w).set q1 (a, .inl (cI.1, n1, .inl (va_cpy f g sp.toNatClampNeg dp.toNatClampNeg n.toNatClampNeg))) = wf w') (k : G p l e R s m args below meth c D A nL Q wf (pc + 3) lo st w') : G p l e R s m args below meth c D A nL Q wf pc lo (.int n :: .int dp :: .ref a :: .int sp :: .ref a0 :: st) w := by
  intro H locs ls hl hP hD hS
  refine va_copyi X.1 X.2.1 (X.2.2.1.trans hl.1.symm) X.2.2.2.1 (X.2.2.2.2.1 _ hw) (X.2.2.2.2.1 _ hnat) (X.2.2.2.2.1 _ hst) (X.2.2.2.2.1 _ hini) X.2.2.2.2.2.1.1 hP hD hS q0 q1 0 0 ha0 ha1 rfl rfl rfl h1 h2 h3 h4 h5 (fun _ _ => rfl) hR.1 hR.2 d (fun H1 locs1 hP1 hD1 hS1 => ?_)
  rw [hw'] at hP1 hD1
  exact k H1 locs1 ls hl hP1 hD1 hS1
theorem g_max (X : gX p s m args meth c cc nL own D cI) {index : Nat} {x y : Int32} (d : decode cc pc = .ok (.invokestatic index, 3)) (hw : (Cond.methodLink own index Lib.Math.max.name) ∈ lw_g) (hst : Cond.static Lib.Math.max.name ∈ lw_g) (hini : Cond.initialized "java/lang/Math" ∈ lw_g) (hcode : Cond.code Lib.Math.max.name Lib.Math.max.code 2 (some .int) ∈ lw_g) (hR : 1 ≤ R.frames ∧ (st.map fun v => v.category).sum + 13 ≤ R.locals) (k : G p l e R s m args below meth c D A nL Q wf (pc + 3) lo (.int (if x < y then y else x) :: st) w) : G p l e R s m args below meth c D A nL Q wf pc lo (.int y :: .int x :: st) w :=
  fun H locs ls hl hP hD hS => va_mmax X.1 X.2.1 (X.2.2.1.trans hl.1.symm) X.2.2.2.1 (X.2.2.2.2.1 _ hw) (X.2.2.2.2.1 _ hst) (X.2.2.2.2.1 _ hini) (X.2.2.2.2.1 _ hcode) hR.1 hR.2 (Nat.zero_le _) (Nat.zero_le _) d (k H locs ls hl hP hD hS)
def yV (y : MethodName) (C : String) (b : ByteArray) (nLc : Nat) (ret : Option FieldType) (n : Nat) : Prop := (Cond.instanceMethod y ∈ lw_g ∧ Cond.selects C y y ∈ lw_g ∧ Cond.initialized C ∈ lw_g ∧ Cond.code y b nLc ret ∈ lw_g) ∧ y.cls = C ∧ y.cls ≠ "java/lang/invoke/MethodHandle" ∧ y.cls ≠ "java/lang/invoke/VarHandle" ∧ (parseMethodDescriptor y.desc).map (fun d => d.parameters.length) = some n
def yS (y : MethodName) (b : ByteArray) (nLc : Nat) (ret : Option FieldType) (n : Nat) : Prop := (Cond.static y ∈ lw_g ∧ Cond.initialized y.cls ∈ lw_g ∧ Cond.code y b nLc ret ∈ lw_g) ∧ y.cls ≠ "java/lang/invoke/MethodHandle" ∧ y.cls ≠ "java/lang/invoke/VarHandle" ∧ (parseMethodDescriptor y.desc).map (fun d => d.parameters.length) = some n
theorem gd_V {y : MethodName} {C : String} {b : ByteArray} {nLc : Nat} {ret : Option FieldType} {n idx : Nat} {own : String} (h : yV y C b nLc ret n) (hw : Cond.methodLink own idx y ∈ lw_g) : GoodIn lw_g (wsV own idx C y (.code y b nLc ret :: lw_g)) := by
  refine gi_g (fun _ h => h) (fun w hw1 => ?_)
  unfold wsV at hw1
  simp only [List.cons_append, List.nil_append, List.mem_cons] at hw1
  obtain ⟨⟨h1, h2, h3, h4⟩, -⟩ := h
  rcases hw1 with rfl | rfl | rfl | rfl | rfl | q
  · exact hw
  · exact h1
  · exact h2
  · exact h3
  · exact h4
  · exact q
theorem gd_S {y : MethodName} {b : ByteArray} {nLc : Nat} {ret : Option FieldType} {n idx : Nat} {own : String} (h : yS y b nLc ret n) (hw : Cond.methodLink own idx y ∈ lw_g) : GoodIn lw_g (va_wsS own idx y (.code y b nLc ret :: lw_g)) := by
  refine gi_g (fun _ h => h) (fun w hw1 => ?_)
  unfold va_wsS at hw1
  simp only [List.cons_append, List.nil_append, List.mem_cons] at hw1
  obtain ⟨⟨h1, h2, h3⟩, -⟩ := h
  rcases hw1 with rfl | rfl | rfl | rfl | q
  · exact hw
  · exact h1
  · exact h2
  · exact h3
  · exact q
theorem gd_N {y : MethodName} {b : ByteArray} {nLc : Nat} {ret : Option FieldType} {n : Nat} (h : yS y b nLc ret n) : GoodIn lw_g (.code y b nLc ret :: lw_g) := by
  refine gi_g (fun _ h => h) (fun w hw1 => ?_)
  rcases List.mem_cons.mp hw1 with rfl | q
  · exact h.1.2.2
  · exact q
theorem g_Vi (X : gX p s m args meth c cc nL own D cI) {y : MethodName} {b : ByteArray} {nLc n idx q0 ci a N : Nat} {ret : Option FieldType} {rm : Room} {C : String} {T : u_T} {fs As st rest : List Value} {r : Int32} {w1 : St} (hM : CTi l D cI A y b nLc ret rm (.ref a :: As) (wf w) r (wf w1)) (d : decode cc pc = .ok (.invokevirtual idx, 3)) (hw : Cond.methodLink own idx y ∈ lw_g) (hy : yV y C b nLc ret n) (he : (wf w)[q0]? = some (a, .inr (ci, fs))) (hc : vwCl[ci]? = some (C, T, N)) (hst : st = As.reverse ++ .ref a :: rest) (hn : As.length = n) (hR : rm.frames + 1 ≤ R.frames ∧ 8 + (nLc + 11) + rm.locals ≤ R.locals) (hrc : rm.cells = 0 ∧ rm.slots = 0) (hcat : (rest.map fun v => v.category).sum ≤ 8) (k : G p l e R s m args below meth c D A nL Q wf (pc + 3) lo (.int r :: rest) w1) : G p l e R s m args below meth c D A nL Q wf pc lo st w := by
  intro H locs ls hl hP hD hS
  refine va_calli (va_runV (As := As) (rest := rest) ⟨X.1, X.2.1, X.2.2.1, X.2.2.2.1, X.2.2.2.2.1⟩ hM (cwV n X.2.2.2.2.1 (gd_V hy hw) rfl hrc.1 hrc.2 hy.2 hR) ⟨gB_blind, va_recv X.2.2.2.2.2.1.1 hP hc he, fun U hU hW => ⟨rfl, by rw [hU]; exact hP, X.2.2.2.2.2.1.warm hW, hD⟩⟩ rfl hn hl.1 hst (lv_room hcat) d ⟨Nat.zero_le _, Nat.zero_le _⟩) hS (fun _ _ h => h) (fun _ h => h)
    (fun r1 u t H1 locs1 ht hvm hpost hB hz hk hS1 => ?_)
  cases hpost
  exact k H1 locs1 ls hl (by rw [← ht]; exact hB.1) hB.2 hS1
theorem g_Si (X : gX p s m args meth c cc nL own D cI) {y : MethodName} {b : ByteArray} {nLc n idx : Nat} {ret : Option FieldType} {rm : Room} {As st rest : List Value} {r : Int32} {w1 : St} (hM : CTi l D cI A y b nLc ret rm As (wf w) r (wf w1)) (d : decode cc pc = .ok (.invokestatic idx, 3)) (hw : Cond.methodLink own idx y ∈ lw_g) (hy : yS y b nLc ret n) (hst : st = As.reverse ++ rest) (hn : As.length = n) (hR : rm.frames + 1 ≤ R.frames ∧ 8 + (nLc + 11) + rm.locals ≤ R.locals) (hrc : rm.cells = 0 ∧ rm.slots = 0) (hcat : (rest.map fun v => v.category).sum ≤ 8) (k : G p l e R s m args below meth c D A nL Q wf (pc + 3) lo (.int r :: rest) w1) : G p l e R s m args below meth c D A nL Q wf pc lo st w := by
  intro H locs ls hl hP hD hS
  refine va_calli (va_runS (As := As) (rest := rest) ⟨X.1, X.2.1, X.2.2.1, X.2.2.2.1, X.2.2.2.2.1⟩ hM (va_cwS n X.2.2.2.2.1 (gd_S hy hw) rfl hrc.1 hrc.2 hy.2 hR) ⟨gB_blind, fun U hU hW => ⟨rfl, by rw [hU]; exact hP, X.2.2.2.2.2.1.warm hW, hD⟩⟩ rfl hn hl.1 hst (lv_room hcat) d ⟨Nat.zero_le _, Nat.zero_le _⟩) hS (fun _ _ h => h) (fun _ h => h)
    (fun r1 u t H1 locs1 ht hvm hpost hB hz hk hS1 => ?_)
  cases hpost
  exact k H1 locs1 ls hl (by rw [← ht]; exact hB.1) hB.2 hS1
theorem g_Ni (X : gX p s m args meth c cc nL own D cI) {y : MethodName} {b : ByteArray} {nLc n idx : Nat} {host : String} {ret : Option FieldType} {rm : Room} {As st rest : List Value} {r : Int32} {w1 : St} (hM : CTi l D cI A y b nLc ret rm As (wf w) r (wf w1)) (d : decode cc pc = .ok (.invokestatic idx, 3)) (hw : (own, idx, y, host) ∈ nsts) (hy : yS y b nLc ret n) (hst : st = As.reverse ++ rest) (hn : As.length = n) (hR : rm.frames + 1 ≤ R.frames ∧ 8 + (nLc + 11) + rm.locals ≤ R.locals) (hrc : rm.cells = 0 ∧ rm.slots = 0) (hcat : (rest.map fun v => v.category).sum ≤ 8) (k : G p l e R s m args below meth c D A nL Q wf (pc + 3) lo (.int r :: rest) w1) : G p l e R s m args below meth c D A nL Q wf pc lo st w := by
  intro H locs ls hl hP hD hS
  refine va_calli (va_runSN (As := As) (rest := rest) ⟨X.1, X.2.1, X.2.2.1, X.2.2.2.1, X.2.2.2.2.1⟩ hM ⟨va_cnB n X.2.2.2.2.1 (gd_N hy) rfl hrc.1 hrc.2 (X.2.2.2.2.2.1.2.1 _ hw) (X.2.2.2.2.1 _ hy.1.2.1) hy.2 hR, X.2.2.2.2.1 _ hy.1.1, trivial⟩ ⟨gB_blind, fun U hU hW => ⟨rfl, by rw [hU]; exact hP, X.2.2.2.2.2.1.warm hW, hD⟩⟩ rfl hn hl.1 hst (lv_room hcat) d ⟨Nat.zero_le _, Nat.zero_le _⟩) hS (fun _ _ h => h) (fun _ h => h)
    (fun r1 u t H1 locs1 ht hvm hpost hB hz hk hS1 => ?_)
  cases hpost
  exact k H1 locs1 ls hl (by rw [← ht]; exact hB.1) hB.2 hS1
theorem g_Vv (X : gX p s m args meth c cc nL own D cI) {y : MethodName} {b : ByteArray} {nLc n idx q0 ci a N : Nat} {ret : Option FieldType} {rm : Room} {C : String} {T : u_T} {fs As st rest : List Value} {w1 : St} (hM : CTv l D cI A y b nLc ret rm (.ref a :: As) (wf w) (wf w1)) (d : decode cc pc = .ok (.invokevirtual idx, 3)) (hw : Cond.methodLink own idx y ∈ lw_g) (hy : yV y C b nLc ret n) (he : (wf w)[q0]? = some (a, .inr (ci, fs))) (hc : vwCl[ci]? = some (C, T, N)) (hst : st = As.reverse ++ .ref a :: rest) (hn : As.length = n) (hR : rm.frames + 1 ≤ R.frames ∧ 8 + (nLc + 11) + rm.locals ≤ R.locals) (hrc : rm.cells = 0 ∧ rm.slots = 0) (hcat : (rest.map fun v => v.category).sum ≤ 8) (k : G p l e R s m args below meth c D A nL Q wf (pc + 3) lo (rest) w1) : G p l e R s m args below meth c D A nL Q wf pc lo st w := by
  intro H locs ls hl hP hD hS
  refine va_callv (va_runV (As := As) (rest := rest) ⟨X.1, X.2.1, X.2.2.1, X.2.2.2.1, X.2.2.2.2.1⟩ hM (cwV n X.2.2.2.2.1 (gd_V hy hw) rfl hrc.1 hrc.2 hy.2 hR) ⟨gB_blind, va_recv X.2.2.2.2.2.1.1 hP hc he, fun U hU hW => ⟨rfl, by rw [hU]; exact hP, X.2.2.2.2.2.1.warm hW, hD⟩⟩ rfl hn hl.1 hst (lv_room hcat) d ⟨Nat.zero_le _, Nat.zero_le _⟩) hS (fun _ _ h => h) (fun _ h => h)
    (fun u t H1 locs1 ht hvm hpost hB hz hk hS1 => ?_)
  exact k H1 locs1 ls hl (by rw [← ht]; exact hB.1) hB.2 hS1
theorem g_Sv (X : gX p s m args meth c cc nL own D cI) {y : MethodName} {b : ByteArray} {nLc n idx : Nat} {ret : Option FieldType} {rm : Room} {As st rest : List Value} {w1 : St} (hM : CTv l D cI A y b nLc ret rm As (wf w) (wf w1)) (d : decode cc pc = .ok (.invokestatic idx, 3)) (hw : Cond.methodLink own idx y ∈ lw_g) (hy : yS y b nLc ret n) (hst : st = As.reverse ++ rest) (hn : As.length = n) (hR : rm.frames + 1 ≤ R.frames ∧ 8 + (nLc + 11) + rm.locals ≤ R.locals) (hrc : rm.cells = 0 ∧ rm.slots = 0) (hcat : (rest.map fun v => v.category).sum ≤ 8) (k : G p l e R s m args below meth c D A nL Q wf (pc + 3) lo (rest) w1) : G p l e R s m args below meth c D A nL Q wf pc lo st w := by
  intro H locs ls hl hP hD hS
  refine va_callv (va_runS (As := As) (rest := rest) ⟨X.1, X.2.1, X.2.2.1, X.2.2.2.1, X.2.2.2.2.1⟩ hM (va_cwS n X.2.2.2.2.1 (gd_S hy hw) rfl hrc.1 hrc.2 hy.2 hR) ⟨gB_blind, fun U hU hW => ⟨rfl, by rw [hU]; exact hP, X.2.2.2.2.2.1.warm hW, hD⟩⟩ rfl hn hl.1 hst (lv_room hcat) d ⟨Nat.zero_le _, Nat.zero_le _⟩) hS (fun _ _ h => h) (fun _ h => h)
    (fun u t H1 locs1 ht hvm hpost hB hz hk hS1 => ?_)
  exact k H1 locs1 ls hl (by rw [← ht]; exact hB.1) hB.2 hS1
theorem g_Nv (X : gX p s m args meth c cc nL own D cI) {y : MethodName} {b : ByteArray} {nLc n idx : Nat} {host : String} {ret : Option FieldType} {rm : Room} {As st rest : List Value} {w1 : St} (hM : CTv l D cI A y b nLc ret rm As (wf w) (wf w1)) (d : decode cc pc = .ok (.invokestatic idx, 3)) (hw : (own, idx, y, host) ∈ nsts) (hy : yS y b nLc ret n) (hst : st = As.reverse ++ rest) (hn : As.length = n) (hR : rm.frames + 1 ≤ R.frames ∧ 8 + (nLc + 11) + rm.locals ≤ R.locals) (hrc : rm.cells = 0 ∧ rm.slots = 0) (hcat : (rest.map fun v => v.category).sum ≤ 8) (k : G p l e R s m args below meth c D A nL Q wf (pc + 3) lo (rest) w1) : G p l e R s m args below meth c D A nL Q wf pc lo st w := by
  intro H locs ls hl hP hD hS
  refine va_callv (va_runSN (As := As) (rest := rest) ⟨X.1, X.2.1, X.2.2.1, X.2.2.2.1, X.2.2.2.2.1⟩ hM ⟨va_cnB n X.2.2.2.2.1 (gd_N hy) rfl hrc.1 hrc.2 (X.2.2.2.2.2.1.2.1 _ hw) (X.2.2.2.2.1 _ hy.1.2.1) hy.2 hR, X.2.2.2.2.1 _ hy.1.1, trivial⟩ ⟨gB_blind, fun U hU hW => ⟨rfl, by rw [hU]; exact hP, X.2.2.2.2.2.1.warm hW, hD⟩⟩ rfl hn hl.1 hst (lv_room hcat) d ⟨Nat.zero_le _, Nat.zero_le _⟩) hS (fun _ _ h => h) (fun _ h => h)
    (fun u t H1 locs1 ht hvm hpost hB hz hk hS1 => ?_)
  exact k H1 locs1 ls hl (by rw [← ht]; exact hB.1) hB.2 hS1
theorem g_iret (X : gX p s m args meth c cc nL own D cI) (hr : meth.sig.returnType = some .int) {x : Int32} {o : Int32 × St} (d : decode cc pc = .ok (.ireturn, 1)) (hf : some (x, w) = some o) : G p l e R s m args below meth c D A nL (MQ below (qcI D A o.1 (wf o.2)) args s 0 0 A) wf pc lo [.int x] w := by
  cases hf
  intro H locs ls hl hP hD hS
  exact W.iret X.1 X.2.1 hr (fun t ht hW => ⟨⟨x, (), rfl, rfl, by rw [ht]; exact hP, hD⟩, hS.F ht⟩) hS.2.2 d X.2.2.2.2.2.2
theorem g_zret (X : gX p s m args meth c cc nL own D cI) (hr : meth.sig.returnType = some .boolean) {x : Int32} {o : Int32 × St} (d : decode cc pc = .ok (.ireturn, 1)) (hn : narrow .boolean (.int x) = .int x) (hf : some (x, w) = some o) : G p l e R s m args below meth c D A nL (MQ below (qcI D A o.1 (wf o.2)) args s 0 0 A) wf pc lo [.int x] w := by
  cases hf
  intro H locs ls hl hP hD hS
  exact W.zret X.1 X.2.1 hr hn (fun t ht hW => ⟨⟨x, (), rfl, rfl, by rw [ht]; exact hP, hD⟩, hS.F ht⟩) hS.2.2 d X.2.2.2.2.2.2
theorem g_vret (X : gX p s m args meth c cc nL own D cI) (hr : meth.sig.returnType = none) {x : Int32} {o : Int32 × St} (d : decode cc pc = .ok (.return_, 1)) (hf : some (x, w) = some o) : G p l e R s m args below meth c D A nL (MQ below (qcV D A (wf o.2)) args s 0 0 A) wf pc lo [] w := by
  cases hf
  intro H locs ls hl hP hD hS
  exact W.vret X.1 X.2.1 hr (fun t ht hW => ⟨⟨(), rfl, trivial, by rw [ht]; exact hP, hD⟩, hS.F ht⟩) hS.2.2 d X.2.2.2.2.2.2
theorem zb {x : Int32} (h : x = 0 ∨ x = 1) : narrow .boolean (.int x) = .int x := by rcases h with rfl | rfl <;> rfl
end GG
end
section
/-! LINKS: the words of the tables, by their places; rooms; decode rows -/
theorem fl_X6_10 : Cond.fieldLink RX6 10 "ReachedHeap" "state" "LReachedHeap$State;" ∈ lw_g := tb1 210 rfl
theorem fl_X6_16 : Cond.fieldLink RX6 16 "ReachedHeap" "ahead" "LReachedHeap$State;" ∈ lw_g := tb1 211 rfl
theorem fl_X6_19 : Cond.fieldLink RX6 19 "ReachedHeap" "kept" "LReachedHeap$State;" ∈ lw_g := tb1 212 rfl
theorem fl_X6_25 : Cond.fieldLink RX6 25 "ReachedHeap" "history" "LReachedHeap$History;" ∈ lw_g := tb1 213 rfl
theorem fl_X6_32 : Cond.fieldLink RX6 32 "ReachedHeap" "commands" "LReachedHeap$Commands;" ∈ lw_g := tb1 214 rfl
theorem fl_X6_36 : Cond.fieldLink RX6 36 "ReachedHeap" "isKept" "Z" ∈ lw_g := tb1 215 rfl
theorem fl_X6_87 : Cond.fieldLink RX6 87 "ReachedHeap$State" "graph" "LReachedHeap$Graph;" ∈ lw_g := tb1 127 rfl
theorem fl_X6_96 : Cond.fieldLink RX6 96 "ReachedHeap$State" "search" "LReachedHeap$Search;" ∈ lw_g := tb1 129 rfl
theorem fl_X6_100 : Cond.fieldLink RX6 100 "ReachedHeap$Search" "row" "LReachedHeap$Line;" ∈ lw_g := tb1 96 rfl
theorem fl_X6_114 : Cond.fieldLink RX6 114 "ReachedHeap$History" "size" "I" ∈ lw_g := tb1 159 rfl
theorem fl_X6_118 : Cond.fieldLink RX6 118 "ReachedHeap$Commands" "length" "I" ∈ lw_g := tb1 175 rfl
theorem fl_X6_146 : Cond.fieldLink RX6 146 "ReachedHeap$Graph" "present" "I" ∈ lw_g := tb1 55 rfl
theorem fl_X6_175 : Cond.fieldLink RX6 175 "ReachedHeap$Commands" "reason" "I" ∈ lw_g := tb1 185 rfl
theorem fl_X6_178 : Cond.fieldLink RX6 178 "ReachedHeap$Commands" "done" "I" ∈ lw_g := tb1 182 rfl
theorem fl_X0_9 : Cond.fieldLink RX0 9 "ReachedHeap$Commands" "signs" "[I" ∈ lw_g := tb1 173 rfl
theorem fl_X0_15 : Cond.fieldLink RX0 15 "ReachedHeap$Commands" "length" "I" ∈ lw_g := tb1 174 rfl
theorem fl_X0_19 : Cond.fieldLink RX0 19 "ReachedHeap$Commands" "next" "I" ∈ lw_g := tb1 176 rfl
theorem fl_X0_22 : Cond.fieldLink RX0 22 "ReachedHeap$Commands" "done" "I" ∈ lw_g := tb1 181 rfl
theorem fl_X0_25 : Cond.fieldLink RX0 25 "ReachedHeap$Commands" "reason" "I" ∈ lw_g := tb1 184 rfl
theorem fl_X0_28 : Cond.fieldLink RX0 28 "ReachedHeap$Commands" "position" "I" ∈ lw_g := tb1 183 rfl
theorem fl_X0_35 : Cond.fieldLink RX0 35 "ReachedHeap$Commands" "kind" "I" ∈ lw_g := tb1 177 rfl
theorem fl_X0_38 : Cond.fieldLink RX0 38 "ReachedHeap$Commands" "first" "I" ∈ lw_g := tb1 178 rfl
theorem fl_X0_47 : Cond.fieldLink RX0 47 "ReachedHeap$Commands" "cause" "I" ∈ lw_g := tb1 186 rfl
theorem fl_X0_50 : Cond.fieldLink RX0 50 "ReachedHeap$Commands" "second" "I" ∈ lw_g := tb1 179 rfl
theorem fl_X0_53 : Cond.fieldLink RX0 53 "ReachedHeap$Commands" "third" "I" ∈ lw_g := tb1 180 rfl
theorem fl_X1_9 : Cond.fieldLink RX1 9 "ReachedHeap$Graph" "fields" "[I" ∈ lw_g := tb1 59 rfl
theorem fl_X1_15 : Cond.fieldLink RX1 15 "ReachedHeap$Graph" "roots" "[I" ∈ lw_g := tb1 60 rfl
theorem fl_X1_18 : Cond.fieldLink RX1 18 "ReachedHeap$Graph" "holders" "[I" ∈ lw_g := tb1 62 rfl
theorem fl_X1_24 : Cond.fieldLink RX1 24 "ReachedHeap$Graph" "toFinish" "LReachedHeap$Line;" ∈ lw_g := tb1 64 rfl
theorem fl_X1_34 : Cond.fieldLink RX1 34 "ReachedHeap$Graph" "present" "I" ∈ lw_g := tb1 52 rfl
theorem fl_X1_65 : Cond.fieldLink RX1 65 "ReachedHeap$Graph" "wanting" "I" ∈ lw_g := tb1 57 rfl
theorem fl_X2_11 : Cond.fieldLink RX2 11 "ReachedHeap$History" "states" "[LReachedHeap$State;" ∈ lw_g := tb1 156 rfl
theorem fl_X2_18 : Cond.fieldLink RX2 18 "ReachedHeap$History" "first" "I" ∈ lw_g := tb1 157 rfl
theorem fl_X2_28 : Cond.fieldLink RX2 28 "ReachedHeap$History" "size" "I" ∈ lw_g := tb1 158 rfl
theorem fl_X3_9 : Cond.fieldLink RX3 9 "ReachedHeap$Line" "numbers" "[I" ∈ lw_g := tb1 39 rfl
theorem fl_X3_15 : Cond.fieldLink RX3 15 "ReachedHeap$Line" "length" "I" ∈ lw_g := tb1 40 rfl
theorem fl_X4_9 : Cond.fieldLink RX4 9 "ReachedHeap$Search" "part" "I" ∈ lw_g := tb1 88 rfl
theorem fl_X4_18 : Cond.fieldLink RX4 18 "ReachedHeap$Search" "row" "LReachedHeap$Line;" ∈ lw_g := tb1 94 rfl
theorem fl_X4_22 : Cond.fieldLink RX4 22 "ReachedHeap$Search" "blackOnes" "I" ∈ lw_g := tb1 92 rfl
theorem fl_X4_33 : Cond.fieldLink RX4 33 "ReachedHeap$Search" "greyOnes" "I" ∈ lw_g := tb1 90 rfl
theorem fl_X4_36 : Cond.fieldLink RX4 36 "ReachedHeap$Graph" "present" "I" ∈ lw_g := tb1 53 rfl
theorem fl_X4_49 : Cond.fieldLink RX4 49 "ReachedHeap$Search" "sweepFrom" "I" ∈ lw_g := tb1 97 rfl
theorem fl_X4_52 : Cond.fieldLink RX4 52 "ReachedHeap$Search" "began" "I" ∈ lw_g := tb1 100 rfl
theorem fl_X4_55 : Cond.fieldLink RX4 55 "ReachedHeap$Search" "steps" "I" ∈ lw_g := tb1 101 rfl
theorem fl_X4_58 : Cond.fieldLink RX4 58 "ReachedHeap$Search" "goneNow" "I" ∈ lw_g := tb1 103 rfl
theorem fl_X4_67 : Cond.fieldLink RX4 67 "ReachedHeap$Graph" "toFinish" "LReachedHeap$Line;" ∈ lw_g := tb1 66 rfl
theorem fl_X4_70 : Cond.fieldLink RX4 70 "ReachedHeap$Line" "length" "I" ∈ lw_g := tb1 41 rfl
theorem fl_X4_101 : Cond.fieldLink RX4 101 "ReachedHeap$Graph" "wanting" "I" ∈ lw_g := tb1 58 rfl
theorem fl_X4_110 : Cond.fieldLink RX4 110 "ReachedHeap$Search" "goneEver" "I" ∈ lw_g := tb1 106 rfl
theorem fl_X5_12 : Cond.fieldLink RX5 12 "ReachedHeap$State" "graph" "LReachedHeap$Graph;" ∈ lw_g := tb1 126 rfl
theorem fl_X5_21 : Cond.fieldLink RX5 21 "ReachedHeap$State" "search" "LReachedHeap$Search;" ∈ lw_g := tb1 128 rfl
theorem fl_X5_25 : Cond.fieldLink RX5 25 "ReachedHeap$State" "beganBefore" "[I" ∈ lw_g := tb1 130 rfl
theorem fl_X5_29 : Cond.fieldLink RX5 29 "ReachedHeap$State" "care" "I" ∈ lw_g := tb1 131 rfl
theorem fl_X5_41 : Cond.fieldLink RX5 41 "ReachedHeap$State" "came" "I" ∈ lw_g := tb1 132 rfl
theorem fl_X5_44 : Cond.fieldLink RX5 44 "ReachedHeap$Search" "began" "I" ∈ lw_g := tb1 99 rfl
theorem fl_X5_90 : Cond.fieldLink RX5 90 "ReachedHeap$Graph" "holders" "[I" ∈ lw_g := tb1 63 rfl
theorem fl_X5_96 : Cond.fieldLink RX5 96 "ReachedHeap$Graph" "wanting" "I" ∈ lw_g := tb1 56 rfl
theorem fl_X5_104 : Cond.fieldLink RX5 104 "ReachedHeap$Graph" "toFinish" "LReachedHeap$Line;" ∈ lw_g := tb1 65 rfl
theorem fl_X5_113 : Cond.fieldLink RX5 113 "ReachedHeap$State" "finished" "I" ∈ lw_g := tb1 133 rfl
theorem fl_X5_116 : Cond.fieldLink RX5 116 "ReachedHeap$Graph" "roots" "[I" ∈ lw_g := tb1 61 rfl
theorem fl_X5_133 : Cond.fieldLink RX5 133 "ReachedHeap$Search" "row" "LReachedHeap$Line;" ∈ lw_g := tb1 95 rfl
theorem fl_X5_136 : Cond.fieldLink RX5 136 "ReachedHeap$Line" "length" "I" ∈ lw_g := tb1 42 rfl
theorem fl_X5_139 : Cond.fieldLink RX5 139 "ReachedHeap$Search" "goneEver" "I" ∈ lw_g := tb1 105 rfl
theorem fl_X5_154 : Cond.fieldLink RX5 154 "ReachedHeap$Graph" "present" "I" ∈ lw_g := tb1 54 rfl
theorem fl_X5_161 : Cond.fieldLink RX5 161 "ReachedHeap$Search" "greyOnes" "I" ∈ lw_g := tb1 91 rfl
theorem fl_X5_164 : Cond.fieldLink RX5 164 "ReachedHeap$Search" "blackOnes" "I" ∈ lw_g := tb1 93 rfl
theorem fl_X5_167 : Cond.fieldLink RX5 167 "ReachedHeap$Search" "goneNow" "I" ∈ lw_g := tb1 104 rfl
theorem fl_X5_173 : Cond.fieldLink RX5 173 "ReachedHeap$Search" "part" "I" ∈ lw_g := tb1 89 rfl
theorem fl_X5_176 : Cond.fieldLink RX5 176 "ReachedHeap$Search" "sweepFrom" "I" ∈ lw_g := tb1 98 rfl
theorem fl_X5_179 : Cond.fieldLink RX5 179 "ReachedHeap$Search" "steps" "I" ∈ lw_g := tb1 102 rfl
theorem fl_X7_7 : Cond.fieldLink RX7 7 "ReachedHeapModel" "s" "[I" ∈ lw_g := tb3 208 rfl
theorem fl_X7_13 : Cond.fieldLink RX7 13 "ReachedHeapModel" "past" "[I" ∈ lw_g := tb3 209 rfl
theorem fl_X7_16 : Cond.fieldLink RX7 16 "ReachedHeapModel" "held" "[I" ∈ lw_g := tb3 210 rfl
theorem fl_X7_19 : Cond.fieldLink RX7 19 "ReachedHeapModel" "tried" "[I" ∈ lw_g := tb3 211 rfl
theorem fl_X7_22 : Cond.fieldLink RX7 22 "ReachedHeapModel" "kept" "[I" ∈ lw_g := tb3 212 rfl
theorem fl_X7_25 : Cond.fieldLink RX7 25 "ReachedHeapModel" "text" "[I" ∈ lw_g := tb3 216 rfl
theorem fl_X7_28 : Cond.fieldLink RX7 28 "ReachedHeapModel" "told" "[I" ∈ lw_g := tb3 222 rfl
theorem fl_X7_31 : Cond.fieldLink RX7 31 "ReachedHeapModel" "runs" "Z" ∈ lw_g := tb3 215 rfl
theorem fl_X7_35 : Cond.fieldLink RX7 35 "ReachedHeapModel" "pasts" "I" ∈ lw_g := tb3 214 rfl
theorem fl_X7_132 : Cond.fieldLink RX7 132 "ReachedHeapModel" "typed" "I" ∈ lw_g := tb3 217 rfl
theorem fl_X7_135 : Cond.fieldLink RX7 135 "ReachedHeapModel" "isKept" "Z" ∈ lw_g := tb3 213 rfl
theorem fl_X7_145 : Cond.fieldLink RX7 145 "ReachedHeapModel" "spot" "I" ∈ lw_g := tb3 218 rfl
theorem fl_X7_158 : Cond.fieldLink RX7 158 "ReachedHeapModel" "order" "I" ∈ lw_g := tb3 221 rfl
theorem fl_X7_180 : Cond.fieldLink RX7 180 "ReachedHeapModel" "commands" "I" ∈ lw_g := tb3 220 rfl
theorem fl_X7_189 : Cond.fieldLink RX7 189 "ReachedHeapModel" "cause" "I" ∈ lw_g := tb3 219 rfl
theorem ml_X6_1 : Cond.methodLink RX6 1 objectInit ∈ lw_g := tb1 18 rfl
theorem ml_X6_24 : Cond.methodLink RX6 24 yX2_init ∈ lw_g := tb1 149 rfl
theorem ml_X6_40 : Cond.methodLink RX6 40 yX2_note ∈ lw_g := tb1 233 rfl
theorem ml_X6_44 : Cond.methodLink RX6 44 yX5_create ∈ lw_g := tb2 26 rfl
theorem ml_X6_48 : Cond.methodLink RX6 48 yX2_settle ∈ lw_g := tb2 73 rfl
theorem ml_X6_51 : Cond.methodLink RX6 51 yX5_writeField ∈ lw_g := tb2 84 rfl
theorem ml_X6_55 : Cond.methodLink RX6 55 yX5_writeRoot ∈ lw_g := tb2 136 rfl
theorem ml_X6_59 : Cond.methodLink RX6 59 yX5_writeHolder ∈ lw_g := tb2 148 rfl
theorem ml_X6_62 : Cond.methodLink RX6 62 yX5_askHolder ∈ lw_g := tb2 160 rfl
theorem ml_X6_65 : Cond.methodLink RX6 65 yX5_wishFinish ∈ lw_g := tb2 172 rfl
theorem ml_X6_68 : Cond.methodLink RX6 68 yX5_finishFirst ∈ lw_g := tb2 186 rfl
theorem ml_X6_71 : Cond.methodLink RX6 71 yX5_beginSearch ∈ lw_g := tb2 198 rfl
theorem ml_X6_75 : Cond.methodLink RX6 75 yX5_doSteps ∈ lw_g := tb2 221 rfl
theorem ml_X6_78 : Cond.methodLink RX6 78 yX5_doAllSteps ∈ lw_g := tb3 24 rfl
theorem ml_X6_81 : Cond.methodLink RX6 81 yX5_setCare ∈ lw_g := tb3 32 rfl
theorem ml_X6_84 : Cond.methodLink RX6 84 yX5_tellObject ∈ lw_g := tb3 40 rfl
theorem ml_X6_91 : Cond.methodLink RX6 91 yX1_tellReferred ∈ lw_g := tb3 61 rfl
theorem ml_X6_106 : Cond.methodLink RX6 106 yX3_at ∈ lw_g := tb3 71 rfl
theorem ml_X6_111 : Cond.methodLink RX6 111 yX5_tellSet ∈ lw_g := tb3 76 rfl
theorem ml_X6_121 : Cond.methodLink RX6 121 yX5_tellNumber ∈ lw_g := tb3 85 rfl
theorem ml_X6_124 : Cond.methodLink RX6 124 yX1_has ∈ lw_g := tb3 98 rfl
theorem ml_X6_128 : Cond.methodLink RX6 128 yX1_distanceTo ∈ lw_g := tb3 99 rfl
theorem ml_X6_131 : Cond.methodLink RX6 131 yX1_reachedByRoots ∈ lw_g := tb3 107 rfl
theorem ml_X6_134 : Cond.methodLink RX6 134 yX6_bit ∈ lw_g := tb2 43 rfl
theorem ml_X6_137 : Cond.methodLink RX6 137 yX1_setOfRoots ∈ lw_g := tb3 108 rfl
theorem ml_X6_140 : Cond.methodLink RX6 140 yX1_reachedFrom ∈ lw_g := tb3 109 rfl
theorem ml_X6_143 : Cond.methodLink RX6 143 yX5_copyFrom ∈ lw_g := tb3 114 rfl
theorem ml_X6_149 : Cond.methodLink RX6 149 yX5_lateOnes ∈ lw_g := tb3 119 rfl
theorem ml_X6_152 : Cond.methodLink RX6 152 yJ6_bitCount_0f7a4 ∈ lw_g := tb3 123 rfl
theorem ml_X6_157 : Cond.methodLink RX6 157 yX1_size ∈ lw_g := tb3 128 rfl
theorem ml_X6_159 : Cond.methodLink RX6 159 yX2_takeBack ∈ lw_g := tb3 137 rfl
theorem ml_X6_163 : Cond.methodLink RX6 163 yX0_append ∈ lw_g := tb3 145 rfl
theorem ml_X6_166 : Cond.methodLink RX6 166 yX0_empty ∈ lw_g := tb3 153 rfl
theorem ml_X6_169 : Cond.methodLink RX6 169 yX0_tryOn ∈ lw_g := tb3 161 rfl
theorem ml_X6_172 : Cond.methodLink RX6 172 yX0_tellFault ∈ lw_g := tb3 194 rfl
theorem ml_X6_181 : Cond.methodLink RX6 181 Lib.Math.max.name ∈ lw_g := tb2 40 rfl
theorem ml_X0_3 : Cond.methodLink RX0 3 objectInit ∈ lw_g := tb1 172 rfl
theorem ml_X0_31 : Cond.methodLink RX0 31 yX0_readCommand ∈ lw_g := tb3 165 rfl
theorem ml_X0_41 : Cond.methodLink RX0 41 yX5_create ∈ lw_g := tb3 188 rfl
theorem ml_X0_56 : Cond.methodLink RX0 56 yX5_writeField ∈ lw_g := tb3 189 rfl
theorem ml_X0_60 : Cond.methodLink RX0 60 yX5_writeRoot ∈ lw_g := tb3 190 rfl
theorem ml_X0_64 : Cond.methodLink RX0 64 yX5_beginSearch ∈ lw_g := tb3 191 rfl
theorem ml_X0_68 : Cond.methodLink RX0 68 yX5_doSteps ∈ lw_g := tb3 192 rfl
theorem ml_X0_75 : Cond.methodLink RX0 75 yX0_signAt ∈ lw_g := tb3 169 rfl
theorem ml_X0_78 : Cond.methodLink RX0 78 yX0_read ∈ lw_g := tb3 173 rfl
theorem ml_X0_81 : Cond.methodLink RX0 81 yX0_readNumber ∈ lw_g := tb3 177 rfl
theorem ml_X0_84 : Cond.methodLink RX0 84 yX0_readTarget ∈ lw_g := tb3 184 rfl
theorem ml_X0_87 : Cond.methodLink RX0 87 yX0_isDigit ∈ lw_g := tb3 181 rfl
theorem ml_X1_3 : Cond.methodLink RX1 3 objectInit ∈ lw_g := tb1 32 rfl
theorem ml_X1_28 : Cond.methodLink RX1 28 yJ7_fill_53178 ∈ lw_g := tb1 49 rfl
theorem ml_X1_42 : Cond.methodLink RX1 42 yX1_has ∈ lw_g := tb2 96 rfl
theorem ml_X1_46 : Cond.methodLink RX1 46 yJ6_bitCount_0f7a4 ∈ lw_g := tb3 93 rfl
theorem ml_X1_55 : Cond.methodLink RX1 55 yX1_rootAt ∈ lw_g := tb3 65 rfl
theorem ml_X1_58 : Cond.methodLink RX1 58 yX1_holderAt ∈ lw_g := tb3 66 rfl
theorem ml_X1_68 : Cond.methodLink RX1 68 yX1_setField ∈ lw_g := tb3 2 rfl
theorem ml_X1_72 : Cond.methodLink RX1 72 yX1_forget ∈ lw_g := tb3 3 rfl
theorem ml_X1_75 : Cond.methodLink RX1 75 yX1_behind ∈ lw_g := tb2 115 rfl
theorem ml_X1_78 : Cond.methodLink RX1 78 yX1_setOfRoots ∈ lw_g := tb2 102 rfl
theorem ml_X1_82 : Cond.methodLink RX1 82 yX1_reachedFrom ∈ lw_g := tb2 111 rfl
theorem ml_X1_85 : Cond.methodLink RX1 85 yX3_asSet ∈ lw_g := tb2 106 rfl
theorem ml_X1_88 : Cond.methodLink RX1 88 arraycopyName ∈ lw_g := tb2 12 rfl
theorem ml_X1_94 : Cond.methodLink RX1 94 yX3_copyFrom ∈ lw_g := tb2 15 rfl
theorem ml_X2_3 : Cond.methodLink RX2 3 objectInit ∈ lw_g := tb1 152 rfl
theorem ml_X2_22 : Cond.methodLink RX2 22 yJ9_floorMod_7cf53 ∈ lw_g := tb2 1 rfl
theorem ml_X2_31 : Cond.methodLink RX2 31 yX2_stateAt ∈ lw_g := tb1 237 rfl
theorem ml_X2_35 : Cond.methodLink RX2 35 yX5_copyFrom ∈ lw_g := tb2 4 rfl
theorem ml_X3_3 : Cond.methodLink RX3 3 objectInit ∈ lw_g := tb1 38 rfl
theorem ml_X3_23 : Cond.methodLink RX3 23 arraycopyName ∈ lw_g := tb2 19 rfl
theorem ml_X4_3 : Cond.methodLink RX4 3 objectInit ∈ lw_g := tb1 85 rfl
theorem ml_X4_29 : Cond.methodLink RX4 29 yX4_isBlack ∈ lw_g := tb3 48 rfl
theorem ml_X4_41 : Cond.methodLink RX4 41 yX3_append ∈ lw_g := tb2 69 rfl
theorem ml_X4_45 : Cond.methodLink RX4 45 yX4_needsCare ∈ lw_g := tb2 51 rfl
theorem ml_X4_61 : Cond.methodLink RX4 61 yX1_rootAt ∈ lw_g := tb2 210 rfl
theorem ml_X4_64 : Cond.methodLink RX4 64 yX4_shade ∈ lw_g := tb2 211 rfl
theorem ml_X4_73 : Cond.methodLink RX4 73 yX3_at ∈ lw_g := tb2 212 rfl
theorem ml_X4_76 : Cond.methodLink RX4 76 yX4_sweep ∈ lw_g := tb2 229 rfl
theorem ml_X4_80 : Cond.methodLink RX4 80 yX4_markFirst ∈ lw_g := tb3 6 rfl
theorem ml_X4_83 : Cond.methodLink RX4 83 yX4_whiteOnes ∈ lw_g := tb2 234 rfl
theorem ml_X4_87 : Cond.methodLink RX4 87 yX1_emptyHoldersOf ∈ lw_g := tb3 12 rfl
theorem ml_X4_90 : Cond.methodLink RX4 90 yX4_findToFinish ∈ lw_g := tb3 16 rfl
theorem ml_X4_93 : Cond.methodLink RX4 93 yX3_takeFirst ∈ lw_g := tb3 10 rfl
theorem ml_X4_97 : Cond.methodLink RX4 97 yX1_fieldOf ∈ lw_g := tb3 11 rfl
theorem ml_X4_107 : Cond.methodLink RX4 107 yX1_letGo ∈ lw_g := tb2 238 rfl
theorem ml_X4_113 : Cond.methodLink RX4 113 yX3_copyFrom ∈ lw_g := tb2 24 rfl
theorem ml_X5_3 : Cond.methodLink RX5 3 objectInit ∈ lw_g := tb1 26 rfl
theorem ml_X5_11 : Cond.methodLink RX5 11 yX1_init ∈ lw_g := tb1 29 rfl
theorem ml_X5_37 : Cond.methodLink RX5 37 yX1_bring ∈ lw_g := tb2 33 rfl
theorem ml_X5_47 : Cond.methodLink RX5 47 yX4_colourNewOne ∈ lw_g := tb2 47 rfl
theorem ml_X5_51 : Cond.methodLink RX5 51 yX5_referRoot ∈ lw_g := tb2 56 rfl
theorem ml_X5_55 : Cond.methodLink RX5 55 yX1_has ∈ lw_g := tb2 88 rfl
theorem ml_X5_59 : Cond.methodLink RX5 59 yX1_hasOrNone ∈ lw_g := tb2 92 rfl
theorem ml_X5_66 : Cond.methodLink RX5 66 yX1_reachedByAll ∈ lw_g := tb2 98 rfl
theorem ml_X5_69 : Cond.methodLink RX5 69 yX1_fieldOf ∈ lw_g := tb2 119 rfl
theorem ml_X5_73 : Cond.methodLink RX5 73 yX1_setField ∈ lw_g := tb2 124 rfl
theorem ml_X5_77 : Cond.methodLink RX5 77 yX4_isBlack ∈ lw_g := tb2 128 rfl
theorem ml_X5_80 : Cond.methodLink RX5 80 yX5_takeCare ∈ lw_g := tb2 60 rfl
theorem ml_X5_84 : Cond.methodLink RX5 84 yX1_rootAt ∈ lw_g := tb2 140 rfl
theorem ml_X5_87 : Cond.methodLink RX5 87 yX1_holderAt ∈ lw_g := tb2 152 rfl
theorem ml_X5_93 : Cond.methodLink RX5 93 yX5_shadeIfCareIsNeeded ∈ lw_g := tb2 164 rfl
theorem ml_X5_99 : Cond.methodLink RX5 99 yJ6_bitCount_0f7a4 ∈ lw_g := tb2 176 rfl
theorem ml_X5_108 : Cond.methodLink RX5 108 yX3_takeFirst ∈ lw_g := tb2 190 rfl
theorem ml_X5_119 : Cond.methodLink RX5 119 yX4_needsCare ∈ lw_g := tb2 64 rfl
theorem ml_X5_123 : Cond.methodLink RX5 123 yX4_shade ∈ lw_g := tb2 65 rfl
theorem ml_X5_126 : Cond.methodLink RX5 126 yX4_isThere ∈ lw_g := tb2 202 rfl
theorem ml_X5_129 : Cond.methodLink RX5 129 yX4_open ∈ lw_g := tb2 206 rfl
theorem ml_X5_142 : Cond.methodLink RX5 142 yX4_advance ∈ lw_g := tb2 225 rfl
theorem ml_X5_145 : Cond.methodLink RX5 145 yX4_colourOf ∈ lw_g := tb3 44 rfl
theorem ml_X5_148 : Cond.methodLink RX5 148 yX1_reachedByRoots ∈ lw_g := tb3 49 rfl
theorem ml_X5_151 : Cond.methodLink RX5 151 yX3_placeOf ∈ lw_g := tb3 53 rfl
theorem ml_X5_157 : Cond.methodLink RX5 157 yX4_whiteOnes ∈ lw_g := tb3 80 rfl
theorem ml_X5_170 : Cond.methodLink RX5 170 yX1_size ∈ lw_g := tb3 89 rfl
theorem ml_X5_182 : Cond.methodLink RX5 182 yX1_copyFrom ∈ lw_g := tb2 8 rfl
theorem ml_X5_185 : Cond.methodLink RX5 185 yX4_copyFrom ∈ lw_g := tb2 20 rfl
theorem ml_X5_188 : Cond.methodLink RX5 188 arraycopyName ∈ lw_g := tb2 25 rfl
theorem ml_L_9 : Cond.methodLink RL 9 yX6_init ∈ lw_g := tb1 15 rfl
theorem ml_L_12 : Cond.methodLink RL 12 yX7_init ∈ lw_g := tb3 204 rfl
theorem ml_L_13 : Cond.methodLink RL 13 yX6_make ∈ lw_g := tb1 229 rfl
theorem ml_L_17 : Cond.methodLink RL 17 yX7_make ∈ lw_g := tb4 14 rfl
theorem ml_L_18 : Cond.methodLink RL 18 yX6_field ∈ lw_g := tb2 80 rfl
theorem ml_L_22 : Cond.methodLink RL 22 yX7_field ∈ lw_g := tb4 56 rfl
theorem ml_L_23 : Cond.methodLink RL 23 yX6_root ∈ lw_g := tb2 132 rfl
theorem ml_L_27 : Cond.methodLink RL 27 yX7_root ∈ lw_g := tb4 80 rfl
theorem ml_L_28 : Cond.methodLink RL 28 yX6_weak ∈ lw_g := tb2 144 rfl
theorem ml_L_31 : Cond.methodLink RL 31 yX7_weak ∈ lw_g := tb4 84 rfl
theorem ml_L_32 : Cond.methodLink RL 32 yX6_ask ∈ lw_g := tb2 156 rfl
theorem ml_L_35 : Cond.methodLink RL 35 yX7_ask ∈ lw_g := tb4 88 rfl
theorem ml_L_36 : Cond.methodLink RL 36 yX6_want ∈ lw_g := tb2 168 rfl
theorem ml_L_39 : Cond.methodLink RL 39 yX7_want ∈ lw_g := tb4 92 rfl
theorem ml_L_40 : Cond.methodLink RL 40 yX6_finish ∈ lw_g := tb2 182 rfl
theorem ml_L_43 : Cond.methodLink RL 43 yX7_finish ∈ lw_g := tb4 100 rfl
theorem ml_L_44 : Cond.methodLink RL 44 yX6_begin ∈ lw_g := tb2 194 rfl
theorem ml_L_48 : Cond.methodLink RL 48 yX7_begin ∈ lw_g := tb4 108 rfl
theorem ml_L_49 : Cond.methodLink RL 49 yX6_step ∈ lw_g := tb2 217 rfl
theorem ml_L_52 : Cond.methodLink RL 52 yX7_step ∈ lw_g := tb4 116 rfl
theorem ml_L_53 : Cond.methodLink RL 53 yX6_all ∈ lw_g := tb3 20 rfl
theorem ml_L_56 : Cond.methodLink RL 56 yX7_all ∈ lw_g := tb4 144 rfl
theorem ml_L_57 : Cond.methodLink RL 57 yX6_set ∈ lw_g := tb3 28 rfl
theorem ml_L_60 : Cond.methodLink RL 60 yX7_set ∈ lw_g := tb4 152 rfl
theorem ml_L_61 : Cond.methodLink RL 61 yX6_objectOf ∈ lw_g := tb3 36 rfl
theorem ml_L_64 : Cond.methodLink RL 64 yX7_objectOf ∈ lw_g := tb4 156 rfl
theorem ml_L_65 : Cond.methodLink RL 65 yX6_refers ∈ lw_g := tb3 57 rfl
theorem ml_L_68 : Cond.methodLink RL 68 yX7_refers ∈ lw_g := tb4 164 rfl
theorem ml_L_69 : Cond.methodLink RL 69 yX6_grey ∈ lw_g := tb3 67 rfl
theorem ml_L_72 : Cond.methodLink RL 72 yX7_grey ∈ lw_g := tb4 168 rfl
theorem ml_L_73 : Cond.methodLink RL 73 yX6_objects ∈ lw_g := tb3 72 rfl
theorem ml_L_76 : Cond.methodLink RL 76 yX7_objects ∈ lw_g := tb4 172 rfl
theorem ml_L_77 : Cond.methodLink RL 77 yX6_count ∈ lw_g := tb3 81 rfl
theorem ml_L_80 : Cond.methodLink RL 80 yX7_count ∈ lw_g := tb4 180 rfl
theorem ml_L_81 : Cond.methodLink RL 81 yX6_far ∈ lw_g := tb3 94 rfl
theorem ml_L_84 : Cond.methodLink RL 84 yX7_far ∈ lw_g := tb4 187 rfl
theorem ml_L_85 : Cond.methodLink RL 85 yX6_hangs ∈ lw_g := tb3 103 rfl
theorem ml_L_88 : Cond.methodLink RL 88 yX7_hangs ∈ lw_g := tb4 191 rfl
theorem ml_L_89 : Cond.methodLink RL 89 yX6_wouldGo ∈ lw_g := tb3 110 rfl
theorem ml_L_92 : Cond.methodLink RL 92 yX7_wouldGo ∈ lw_g := tb4 195 rfl
theorem ml_L_93 : Cond.methodLink RL 93 yX6_late ∈ lw_g := tb3 115 rfl
theorem ml_L_96 : Cond.methodLink RL 96 yX7_late ∈ lw_g := tb4 202 rfl
theorem ml_L_97 : Cond.methodLink RL 97 yX6_keep ∈ lw_g := tb3 124 rfl
theorem ml_L_100 : Cond.methodLink RL 100 yX7_keep ∈ lw_g := tb4 206 rfl
theorem ml_L_101 : Cond.methodLink RL 101 yX6_restore ∈ lw_g := tb3 129 rfl
theorem ml_L_104 : Cond.methodLink RL 104 yX7_restore ∈ lw_g := tb4 211 rfl
theorem ml_L_105 : Cond.methodLink RL 105 yX6_undo ∈ lw_g := tb3 133 rfl
theorem ml_L_108 : Cond.methodLink RL 108 yX7_undo ∈ lw_g := tb4 215 rfl
theorem ml_L_109 : Cond.methodLink RL 109 yX6_type ∈ lw_g := tb3 141 rfl
theorem ml_L_112 : Cond.methodLink RL 112 yX7_type ∈ lw_g := tb4 219 rfl
theorem ml_L_113 : Cond.methodLink RL 113 yX6_clearText ∈ lw_g := tb3 149 rfl
theorem ml_L_116 : Cond.methodLink RL 116 yX7_clearText ∈ lw_g := tb4 223 rfl
theorem ml_L_117 : Cond.methodLink RL 117 yX6_fault ∈ lw_g := tb3 157 rfl
theorem ml_L_120 : Cond.methodLink RL 120 yX7_fault ∈ lw_g := tb4 227 rfl
theorem ml_L_121 : Cond.methodLink RL 121 yX6_play ∈ lw_g := tb3 198 rfl
theorem ml_L_124 : Cond.methodLink RL 124 yX7_play ∈ lw_g := tb5 24 rfl
theorem ml_X7_1 : Cond.methodLink RX7 1 objectInit ∈ lw_g := tb3 207 rfl
theorem ml_X7_39 : Cond.methodLink RX7 39 yX7_in ∈ lw_g := tb4 21 rfl
theorem ml_X7_43 : Cond.methodLink RX7 43 yX7_of ∈ lw_g := tb4 28 rfl
theorem ml_X7_47 : Cond.methodLink RX7 47 yX7_spreads ∈ lw_g := tb4 76 rfl
theorem ml_X7_50 : Cond.methodLink RX7 50 yX7_rooted ∈ lw_g := tb4 72 rfl
theorem ml_X7_54 : Cond.methodLink RX7 54 yX7_reached ∈ lw_g := tb4 68 rfl
theorem ml_X7_58 : Cond.methodLink RX7 58 yX7_sets ∈ lw_g := tb4 36 rfl
theorem ml_X7_62 : Cond.methodLink RX7 62 yX7_isMarking ∈ lw_g := tb4 40 rfl
theorem ml_X7_66 : Cond.methodLink RX7 66 yX7_shades ∈ lw_g := tb4 52 rfl
theorem ml_X7_70 : Cond.methodLink RX7 70 yX7_cares ∈ lw_g := tb4 48 rfl
theorem ml_X7_74 : Cond.methodLink RX7 74 yX7_isRoot ∈ lw_g := tb4 18 rfl
theorem ml_X7_78 : Cond.methodLink RX7 78 yX7_lowestFree ∈ lw_g := tb4 24 rfl
theorem ml_X7_81 : Cond.methodLink RX7 81 yX7_changes ∈ lw_g := tb4 32 rfl
theorem ml_X7_84 : Cond.methodLink RX7 84 yX7_writesRoot ∈ lw_g := tb4 44 rfl
theorem ml_X7_87 : Cond.methodLink RX7 87 yX7_isObject ∈ lw_g := tb4 60 rfl
theorem ml_X7_90 : Cond.methodLink RX7 90 yX7_isReached ∈ lw_g := tb4 64 rfl
theorem ml_X7_93 : Cond.methodLink RX7 93 yX7_wanting ∈ lw_g := tb4 96 rfl
theorem ml_X7_96 : Cond.methodLink RX7 96 yX7_takes ∈ lw_g := tb4 104 rfl
theorem ml_X7_99 : Cond.methodLink RX7 99 yX7_begins ∈ lw_g := tb4 112 rfl
theorem ml_X7_102 : Cond.methodLink RX7 102 yX7_clears ∈ lw_g := tb4 136 rfl
theorem ml_X7_105 : Cond.methodLink RX7 105 yX7_letsGo ∈ lw_g := tb4 128 rfl
theorem ml_X7_108 : Cond.methodLink RX7 108 yX7_sweeps ∈ lw_g := tb4 124 rfl
theorem ml_X7_111 : Cond.methodLink RX7 111 yX7_blackens ∈ lw_g := tb4 132 rfl
theorem ml_X7_114 : Cond.methodLink RX7 114 yX7_looksForFinish ∈ lw_g := tb4 140 rfl
theorem ml_X7_117 : Cond.methodLink RX7 117 yX7_steps ∈ lw_g := tb4 120 rfl
theorem ml_X7_120 : Cond.methodLink RX7 120 yX7_doesAll ∈ lw_g := tb4 148 rfl
theorem ml_X7_123 : Cond.methodLink RX7 123 yX7_placeIn ∈ lw_g := tb4 160 rfl
theorem ml_X7_126 : Cond.methodLink RX7 126 yX7_those ∈ lw_g := tb4 176 rfl
theorem ml_X7_129 : Cond.methodLink RX7 129 yX7_ones ∈ lw_g := tb4 184 rfl
theorem ml_X7_138 : Cond.methodLink RX7 138 yX7_copies ∈ lw_g := tb4 199 rfl
theorem ml_X7_142 : Cond.methodLink RX7 142 yX7_count ∈ lw_g := tb4 210 rfl
theorem ml_X7_148 : Cond.methodLink RX7 148 yX7_isAt ∈ lw_g := tb5 3 rfl
theorem ml_X7_152 : Cond.methodLink RX7 152 yX7_sign ∈ lw_g := tb4 239 rfl
theorem ml_X7_155 : Cond.methodLink RX7 155 yX7_number ∈ lw_g := tb5 7 rfl
theorem ml_X7_161 : Cond.methodLink RX7 161 yX7_target ∈ lw_g := tb5 11 rfl
theorem ml_X7_164 : Cond.methodLink RX7 164 yX7_begin ∈ lw_g := tb5 19 rfl
theorem ml_X7_167 : Cond.methodLink RX7 167 yX7_make ∈ lw_g := tb5 20 rfl
theorem ml_X7_170 : Cond.methodLink RX7 170 yX7_step ∈ lw_g := tb5 21 rfl
theorem ml_X7_173 : Cond.methodLink RX7 173 yX7_root ∈ lw_g := tb5 22 rfl
theorem ml_X7_176 : Cond.methodLink RX7 176 yX7_field ∈ lw_g := tb5 23 rfl
theorem ml_X7_183 : Cond.methodLink RX7 183 yX7_reads ∈ lw_g := tb4 235 rfl
theorem ml_X7_186 : Cond.methodLink RX7 186 yX7_calls ∈ lw_g := tb5 15 rfl
theorem ml_X7_192 : Cond.methodLink RX7 192 yX7_plays ∈ lw_g := tb4 231 rfl
theorem ml_X6_9 : (RX6, 9, yX5_init, "ReachedHeap") ∈ nsts := List.mem_of_getElem? (i := 0) rfl
theorem ml_X6_31 : (RX6, 31, yX0_init, "ReachedHeap") ∈ nsts := List.mem_of_getElem? (i := 1) rfl
theorem ml_X0_71 : (RX0, 71, yX6_isError, "ReachedHeap") ∈ nsts := List.mem_of_getElem? (i := 2) rfl
theorem ml_X1_23 : (RX1, 23, yX3_init, "ReachedHeap") ∈ nsts := List.mem_of_getElem? (i := 3) rfl
theorem ml_X1_38 : (RX1, 38, yX6_bit, "ReachedHeap") ∈ nsts := List.mem_of_getElem? (i := 4) rfl
theorem ml_X1_51 : (RX1, 51, yX6_isIn, "ReachedHeap") ∈ nsts := List.mem_of_getElem? (i := 5) rfl
theorem ml_X1_61 : (RX1, 61, yX6_lowestOf, "ReachedHeap") ∈ nsts := List.mem_of_getElem? (i := 6) rfl
theorem ml_X2_17 : (RX2, 17, yX5_init, "ReachedHeap") ∈ nsts := List.mem_of_getElem? (i := 7) rfl
theorem ml_X2_39 : (RX2, 39, yX6_isError, "ReachedHeap") ∈ nsts := List.mem_of_getElem? (i := 8) rfl
theorem ml_X3_19 : (RX3, 19, yX6_isIn, "ReachedHeap") ∈ nsts := List.mem_of_getElem? (i := 9) rfl
theorem ml_X3_29 : (RX3, 29, yX6_bit, "ReachedHeap") ∈ nsts := List.mem_of_getElem? (i := 10) rfl
theorem ml_X4_17 : (RX4, 17, yX3_init, "ReachedHeap") ∈ nsts := List.mem_of_getElem? (i := 11) rfl
theorem ml_X4_25 : (RX4, 25, yX6_bit, "ReachedHeap") ∈ nsts := List.mem_of_getElem? (i := 12) rfl
theorem ml_X4_104 : (RX4, 104, yX6_lowestOf, "ReachedHeap") ∈ nsts := List.mem_of_getElem? (i := 13) rfl
theorem ml_X5_20 : (RX5, 20, yX4_init, "ReachedHeap") ∈ nsts := List.mem_of_getElem? (i := 14) rfl
theorem ml_X5_33 : (RX5, 33, yX6_isIn, "ReachedHeap") ∈ nsts := List.mem_of_getElem? (i := 15) rfl
theorem ml_X5_62 : (RX5, 62, yX6_bit, "ReachedHeap") ∈ nsts := List.mem_of_getElem? (i := 16) rfl
abbrev rm_X6_bit : Room := { frames := 0, cells := 0, slots := 0, locals := 0 }
abbrev rm_X6_isIn : Room := { frames := 0, cells := 0, slots := 0, locals := 0 }
abbrev rm_X6_isError : Room := { frames := 0, cells := 0, slots := 0, locals := 0 }
abbrev rm_X6_lowestOf : Room := { frames := 1, cells := 0, slots := 0, locals := 21 }
abbrev rm_X0_isDigit : Room := { frames := 0, cells := 0, slots := 0, locals := 0 }
abbrev rm_J6_bitCount_0f7a4 : Room := { frames := 0, cells := 0, slots := 0, locals := 0 }
abbrev rm_X7_in : Room := { frames := 0, cells := 0, slots := 0, locals := 0 }
abbrev rm_X7_isRoot : Room := { frames := 1, cells := 0, slots := 0, locals := 22 }
abbrev rm_X7_ones : Room := { frames := 0, cells := 0, slots := 0, locals := 0 }
abbrev rm_X3_append : Room := { frames := 0, cells := 0, slots := 0, locals := 0 }
abbrev rm_X3_at : Room := { frames := 1, cells := 0, slots := 0, locals := 21 }
abbrev rm_X3_takeFirst : Room := { frames := 1, cells := 0, slots := 0, locals := 26 }
abbrev rm_X3_placeOf : Room := { frames := 0, cells := 0, slots := 0, locals := 0 }
abbrev rm_X3_asSet : Room := { frames := 1, cells := 0, slots := 0, locals := 20 }
abbrev rm_X1_has : Room := { frames := 1, cells := 0, slots := 0, locals := 20 }
abbrev rm_X1_hasOrNone : Room := { frames := 2, cells := 0, slots := 0, locals := 41 }
abbrev rm_X1_size : Room := { frames := 1, cells := 0, slots := 0, locals := 20 }
abbrev rm_X1_fieldOf : Room := { frames := 1, cells := 0, slots := 0, locals := 21 }
abbrev rm_X1_setField : Room := { frames := 0, cells := 0, slots := 0, locals := 0 }
abbrev rm_X1_rootAt : Room := { frames := 1, cells := 0, slots := 0, locals := 21 }
abbrev rm_X1_holderAt : Room := { frames := 1, cells := 0, slots := 0, locals := 21 }
abbrev rm_X1_tellReferred : Room := { frames := 2, cells := 0, slots := 0, locals := 42 }
abbrev rm_X1_bring : Room := { frames := 2, cells := 0, slots := 0, locals := 43 }
abbrev rm_X1_forget : Room := { frames := 0, cells := 0, slots := 0, locals := 0 }
abbrev rm_X1_letGo : Room := { frames := 1, cells := 0, slots := 0, locals := 23 }
abbrev rm_X1_emptyHoldersOf : Room := { frames := 1, cells := 0, slots := 0, locals := 20 }
abbrev rm_X1_setOfRoots : Room := { frames := 1, cells := 0, slots := 0, locals := 20 }
abbrev rm_X1_behind : Room := { frames := 1, cells := 0, slots := 0, locals := 20 }
abbrev rm_X1_reachedFrom : Room := { frames := 2, cells := 0, slots := 0, locals := 43 }
abbrev rm_X1_reachedByRoots : Room := { frames := 3, cells := 0, slots := 0, locals := 68 }
abbrev rm_X1_reachedByAll : Room := { frames := 3, cells := 0, slots := 0, locals := 68 }
abbrev rm_X1_distanceTo : Room := { frames := 2, cells := 0, slots := 0, locals := 43 }
abbrev rm_X4_isThere : Room := { frames := 0, cells := 0, slots := 0, locals := 0 }
abbrev rm_X4_needsCare : Room := { frames := 0, cells := 0, slots := 0, locals := 0 }
abbrev rm_X4_isBlack : Room := { frames := 1, cells := 0, slots := 0, locals := 20 }
abbrev rm_X4_colourOf : Room := { frames := 2, cells := 0, slots := 0, locals := 41 }
abbrev rm_X4_shade : Room := { frames := 1, cells := 0, slots := 0, locals := 21 }
abbrev rm_X4_colourNewOne : Room := { frames := 1, cells := 0, slots := 0, locals := 20 }
abbrev rm_X4_whiteOnes : Room := { frames := 0, cells := 0, slots := 0, locals := 0 }
abbrev rm_X4_open : Room := { frames := 2, cells := 0, slots := 0, locals := 43 }
abbrev rm_X4_findToFinish : Room := { frames := 2, cells := 0, slots := 0, locals := 43 }
abbrev rm_X4_markFirst : Room := { frames := 2, cells := 0, slots := 0, locals := 47 }
abbrev rm_X4_sweep : Room := { frames := 2, cells := 0, slots := 0, locals := 45 }
abbrev rm_X4_advance : Room := { frames := 3, cells := 0, slots := 0, locals := 70 }
abbrev rm_X5_takeCare : Room := { frames := 2, cells := 0, slots := 0, locals := 43 }
abbrev rm_X5_referRoot : Room := { frames := 3, cells := 0, slots := 0, locals := 66 }
abbrev rm_X5_create : Room := { frames := 4, cells := 0, slots := 0, locals := 89 }
abbrev rm_X5_writeField : Room := { frames := 4, cells := 0, slots := 0, locals := 88 }
abbrev rm_X5_writeRoot : Room := { frames := 4, cells := 0, slots := 0, locals := 89 }
abbrev rm_X5_writeHolder : Room := { frames := 4, cells := 0, slots := 0, locals := 88 }
abbrev rm_X5_shadeIfCareIsNeeded : Room := { frames := 2, cells := 0, slots := 0, locals := 43 }
abbrev rm_X5_askHolder : Room := { frames := 4, cells := 0, slots := 0, locals := 89 }
abbrev rm_X5_wishFinish : Room := { frames := 4, cells := 0, slots := 0, locals := 88 }
abbrev rm_X5_finishFirst : Room := { frames := 4, cells := 0, slots := 0, locals := 89 }
abbrev rm_X5_beginSearch : Room := { frames := 3, cells := 0, slots := 0, locals := 65 }
abbrev rm_X5_doSteps : Room := { frames := 4, cells := 0, slots := 0, locals := 91 }
abbrev rm_X5_doAllSteps : Room := { frames := 4, cells := 0, slots := 0, locals := 91 }
abbrev rm_X5_setCare : Room := { frames := 1, cells := 0, slots := 0, locals := 20 }
abbrev rm_X5_tellObject : Room := { frames := 4, cells := 0, slots := 0, locals := 88 }
abbrev rm_X5_tellSet : Room := { frames := 4, cells := 0, slots := 0, locals := 88 }
abbrev rm_X5_tellNumber : Room := { frames := 2, cells := 0, slots := 0, locals := 40 }
abbrev rm_X5_lateOnes : Room := { frames := 4, cells := 0, slots := 0, locals := 88 }
abbrev rm_X0_append : Room := { frames := 0, cells := 0, slots := 0, locals := 0 }
abbrev rm_X0_empty : Room := { frames := 0, cells := 0, slots := 0, locals := 0 }
abbrev rm_X0_tellFault : Room := { frames := 0, cells := 0, slots := 0, locals := 0 }
abbrev rm_X0_signAt : Room := { frames := 0, cells := 0, slots := 0, locals := 0 }
abbrev rm_X0_read : Room := { frames := 1, cells := 0, slots := 0, locals := 21 }
abbrev rm_X0_readNumber : Room := { frames := 1, cells := 0, slots := 0, locals := 21 }
abbrev rm_X0_readTarget : Room := { frames := 2, cells := 0, slots := 0, locals := 43 }
abbrev rm_X0_readCommand : Room := { frames := 3, cells := 0, slots := 0, locals := 63 }
abbrev rm_X0_tryOn : Room := { frames := 5, cells := 0, slots := 0, locals := 114 }
abbrev rm_X7_copies : Room := { frames := 0, cells := 0, slots := 0, locals := 0 }
abbrev rm_X7_changes : Room := { frames := 0, cells := 0, slots := 0, locals := 0 }
abbrev rm_X7_of : Room := { frames := 0, cells := 0, slots := 0, locals := 0 }
abbrev rm_X7_sets : Room := { frames := 0, cells := 0, slots := 0, locals := 0 }
abbrev rm_X7_shades : Room := { frames := 1, cells := 0, slots := 0, locals := 23 }
abbrev rm_X7_begins : Room := { frames := 2, cells := 0, slots := 0, locals := 44 }
abbrev rm_X7_takes : Room := { frames := 0, cells := 0, slots := 0, locals := 0 }
abbrev rm_X7_blackens : Room := { frames := 2, cells := 0, slots := 0, locals := 44 }
abbrev rm_X7_clears : Room := { frames := 1, cells := 0, slots := 0, locals := 22 }
abbrev rm_X7_isObject : Room := { frames := 1, cells := 0, slots := 0, locals := 22 }
abbrev rm_X7_looksForFinish : Room := { frames := 2, cells := 0, slots := 0, locals := 44 }
abbrev rm_X7_letsGo : Room := { frames := 1, cells := 0, slots := 0, locals := 23 }
abbrev rm_X7_sweeps : Room := { frames := 2, cells := 0, slots := 0, locals := 46 }
abbrev rm_X7_steps : Room := { frames := 3, cells := 0, slots := 0, locals := 67 }
abbrev rm_X7_doesAll : Room := { frames := 4, cells := 0, slots := 0, locals := 87 }
abbrev rm_X7_all : Room := { frames := 5, cells := 0, slots := 0, locals := 108 }
abbrev rm_X7_isMarking : Room := { frames := 0, cells := 0, slots := 0, locals := 0 }
abbrev rm_X7_cares : Room := { frames := 2, cells := 0, slots := 0, locals := 44 }
abbrev rm_X7_writesRoot : Room := { frames := 3, cells := 0, slots := 0, locals := 67 }
abbrev rm_X7_ask : Room := { frames := 4, cells := 0, slots := 0, locals := 90 }
abbrev rm_X7_begin : Room := { frames := 3, cells := 0, slots := 0, locals := 65 }
abbrev rm_X7_spreads : Room := { frames := 1, cells := 0, slots := 0, locals := 22 }
abbrev rm_X7_rooted : Room := { frames := 2, cells := 0, slots := 0, locals := 50 }
abbrev rm_X7_reached : Room := { frames := 3, cells := 0, slots := 0, locals := 74 }
abbrev rm_X7_isReached : Room := { frames := 4, cells := 0, slots := 0, locals := 96 }
abbrev rm_X7_field : Room := { frames := 5, cells := 0, slots := 0, locals := 117 }
abbrev rm_X7_lowestFree : Room := { frames := 1, cells := 0, slots := 0, locals := 22 }
abbrev rm_X7_make : Room := { frames := 4, cells := 0, slots := 0, locals := 90 }
abbrev rm_X7_root : Room := { frames := 5, cells := 0, slots := 0, locals := 117 }
abbrev rm_X7_step : Room := { frames := 4, cells := 0, slots := 0, locals := 87 }
abbrev rm_X7_calls : Room := { frames := 6, cells := 0, slots := 0, locals := 141 }
abbrev rm_X7_clearText : Room := { frames := 0, cells := 0, slots := 0, locals := 0 }
abbrev rm_X7_those : Room := { frames := 2, cells := 0, slots := 0, locals := 43 }
abbrev rm_X7_count : Room := { frames := 3, cells := 0, slots := 0, locals := 67 }
abbrev rm_X7_far : Room := { frames := 2, cells := 0, slots := 0, locals := 43 }
abbrev rm_X7_isAt : Room := { frames := 1, cells := 0, slots := 0, locals := 22 }
abbrev rm_X7_number : Room := { frames := 2, cells := 0, slots := 0, locals := 44 }
abbrev rm_X7_sign : Room := { frames := 2, cells := 0, slots := 0, locals := 44 }
abbrev rm_X7_target : Room := { frames := 3, cells := 0, slots := 0, locals := 66 }
abbrev rm_X7_reads : Room := { frames := 4, cells := 0, slots := 0, locals := 87 }
abbrev rm_X7_plays : Room := { frames := 7, cells := 0, slots := 0, locals := 161 }
abbrev rm_X7_fault : Room := { frames := 8, cells := 0, slots := 0, locals := 184 }
abbrev rm_X7_finish : Room := { frames := 4, cells := 0, slots := 0, locals := 90 }
abbrev rm_X7_grey : Room := { frames := 0, cells := 0, slots := 0, locals := 0 }
abbrev rm_X7_hangs : Room := { frames := 3, cells := 0, slots := 0, locals := 74 }
abbrev rm_X7_keep : Room := { frames := 4, cells := 0, slots := 0, locals := 88 }
abbrev rm_X7_late : Room := { frames := 4, cells := 0, slots := 0, locals := 96 }
abbrev rm_X7_placeIn : Room := { frames := 0, cells := 0, slots := 0, locals := 0 }
abbrev rm_X7_objectOf : Room := { frames := 3, cells := 0, slots := 0, locals := 74 }
abbrev rm_X7_objects : Room := { frames := 4, cells := 0, slots := 0, locals := 96 }
abbrev rm_X7_play : Room := { frames := 8, cells := 0, slots := 0, locals := 184 }
abbrev rm_X7_refers : Room := { frames := 2, cells := 0, slots := 0, locals := 42 }
abbrev rm_X7_restore : Room := { frames := 4, cells := 0, slots := 0, locals := 88 }
abbrev rm_X7_set : Room := { frames := 1, cells := 0, slots := 0, locals := 22 }
abbrev rm_X7_type : Room := { frames := 1, cells := 0, slots := 0, locals := 22 }
abbrev rm_X7_undo : Room := { frames := 0, cells := 0, slots := 0, locals := 0 }
abbrev rm_X7_wanting : Room := { frames := 1, cells := 0, slots := 0, locals := 22 }
abbrev rm_X7_want : Room := { frames := 5, cells := 0, slots := 0, locals := 117 }
abbrev rm_X7_weak : Room := { frames := 5, cells := 0, slots := 0, locals := 117 }
abbrev rm_X7_wouldGo : Room := { frames := 5, cells := 0, slots := 0, locals := 108 }
abbrev rm_X3_copyFrom : Room := { frames := 1, cells := 0, slots := 0, locals := 26 }
abbrev rm_X1_copyFrom : Room := { frames := 2, cells := 0, slots := 0, locals := 47 }
abbrev rm_X4_copyFrom : Room := { frames := 2, cells := 0, slots := 0, locals := 47 }
abbrev rm_X5_copyFrom : Room := { frames := 3, cells := 0, slots := 0, locals := 68 }
theorem yv_X6_bit : yS yX6_bit cX6_bit 1 (some .int) 1 := ⟨⟨tb2 44 rfl, tb1 1 rfl, tb2 45 rfl⟩, by decide +kernel, by decide +kernel, by decide +kernel⟩
theorem yv_X6_isIn : yS yX6_isIn cX6_isIn 2 (some .boolean) 2 := ⟨⟨tb2 31 rfl, tb1 1 rfl, tb2 32 rfl⟩, by decide +kernel, by decide +kernel, by decide +kernel⟩
theorem yv_X6_isError : yS yX6_isError cX6_isError 1 (some .boolean) 1 := ⟨⟨tb2 78 rfl, tb1 1 rfl, tb2 79 rfl⟩, by decide +kernel, by decide +kernel, by decide +kernel⟩
theorem yv_X6_lowestOf : yS yX6_lowestOf cX6_lowestOf 3 (some .int) 2 := ⟨⟨tb2 38 rfl, tb1 1 rfl, tb2 39 rfl⟩, by decide +kernel, by decide +kernel, by decide +kernel⟩
theorem yv_X0_isDigit : yS yX0_isDigit cX0_isDigit 1 (some .boolean) 1 := ⟨⟨tb3 182 rfl, tb1 8 rfl, tb3 183 rfl⟩, by decide +kernel, by decide +kernel, by decide +kernel⟩
theorem yv_J6_bitCount_0f7a4 : yS yJ6_bitCount_0f7a4 cJ6_bitCount_0f7a4 1 (some .int) 1 := ⟨⟨tb2 177 rfl, tb1 12 rfl, tb2 178 rfl⟩, by decide +kernel, by decide +kernel, by decide +kernel⟩
theorem yv_X7_in : yS yX7_in cX7_in 3 (some .boolean) 3 := ⟨⟨tb4 22 rfl, tb1 9 rfl, tb4 23 rfl⟩, by decide +kernel, by decide +kernel, by decide +kernel⟩
theorem yv_X7_isRoot : yS yX7_isRoot cX7_isRoot 1 (some .boolean) 1 := ⟨⟨tb4 19 rfl, tb1 9 rfl, tb4 20 rfl⟩, by decide +kernel, by decide +kernel, by decide +kernel⟩
theorem yv_X7_ones : yS yX7_ones cX7_ones 3 (some .int) 1 := ⟨⟨tb4 185 rfl, tb1 9 rfl, tb4 186 rfl⟩, by decide +kernel, by decide +kernel, by decide +kernel⟩
theorem yv_X3_append : yV yX3_append RX3 cX3_append 2 (none) 1 := ⟨⟨tb2 70 rfl, tb2 71 rfl, tb1 4 rfl, tb2 72 rfl⟩, rfl, by decide +kernel, by decide +kernel, by decide +kernel⟩
theorem yv_X3_at : yV yX3_at RX3 cX3_at 2 (some .int) 1 := ⟨⟨tb2 213 rfl, tb2 214 rfl, tb1 4 rfl, tb2 215 rfl⟩, rfl, by decide +kernel, by decide +kernel, by decide +kernel⟩
theorem yv_X3_takeFirst : yV yX3_takeFirst RX3 cX3_takeFirst 2 (some .int) 0 := ⟨⟨tb2 191 rfl, tb2 192 rfl, tb1 4 rfl, tb2 193 rfl⟩, rfl, by decide +kernel, by decide +kernel, by decide +kernel⟩
theorem yv_X3_placeOf : yV yX3_placeOf RX3 cX3_placeOf 3 (some .int) 1 := ⟨⟨tb3 54 rfl, tb3 55 rfl, tb1 4 rfl, tb3 56 rfl⟩, rfl, by decide +kernel, by decide +kernel, by decide +kernel⟩
theorem yv_X3_asSet : yV yX3_asSet RX3 cX3_asSet 3 (some .int) 0 := ⟨⟨tb2 107 rfl, tb2 108 rfl, tb1 4 rfl, tb2 109 rfl⟩, rfl, by decide +kernel, by decide +kernel, by decide +kernel⟩
theorem yv_X1_has : yV yX1_has RX1 cX1_has 2 (some .boolean) 1 := ⟨⟨tb2 89 rfl, tb2 90 rfl, tb1 3 rfl, tb2 91 rfl⟩, rfl, by decide +kernel, by decide +kernel, by decide +kernel⟩
theorem yv_X1_hasOrNone : yV yX1_hasOrNone RX1 cX1_hasOrNone 2 (some .boolean) 1 := ⟨⟨tb2 93 rfl, tb2 94 rfl, tb1 3 rfl, tb2 95 rfl⟩, rfl, by decide +kernel, by decide +kernel, by decide +kernel⟩
theorem yv_X1_size : yV yX1_size RX1 cX1_size 1 (some .int) 0 := ⟨⟨tb3 90 rfl, tb3 91 rfl, tb1 3 rfl, tb3 92 rfl⟩, rfl, by decide +kernel, by decide +kernel, by decide +kernel⟩
theorem yv_X1_fieldOf : yV yX1_fieldOf RX1 cX1_fieldOf 3 (some .int) 2 := ⟨⟨tb2 120 rfl, tb2 121 rfl, tb1 3 rfl, tb2 122 rfl⟩, rfl, by decide +kernel, by decide +kernel, by decide +kernel⟩
theorem yv_X1_setField : yV yX1_setField RX1 cX1_setField 4 (none) 3 := ⟨⟨tb2 125 rfl, tb2 126 rfl, tb1 3 rfl, tb2 127 rfl⟩, rfl, by decide +kernel, by decide +kernel, by decide +kernel⟩
theorem yv_X1_rootAt : yV yX1_rootAt RX1 cX1_rootAt 2 (some .int) 1 := ⟨⟨tb2 141 rfl, tb2 142 rfl, tb1 3 rfl, tb2 143 rfl⟩, rfl, by decide +kernel, by decide +kernel, by decide +kernel⟩
theorem yv_X1_holderAt : yV yX1_holderAt RX1 cX1_holderAt 2 (some .int) 1 := ⟨⟨tb2 153 rfl, tb2 154 rfl, tb1 3 rfl, tb2 155 rfl⟩, rfl, by decide +kernel, by decide +kernel, by decide +kernel⟩
theorem yv_X1_tellReferred : yV yX1_tellReferred RX1 cX1_tellReferred 4 (some .int) 2 := ⟨⟨tb3 62 rfl, tb3 63 rfl, tb1 3 rfl, tb3 64 rfl⟩, rfl, by decide +kernel, by decide +kernel, by decide +kernel⟩
theorem yv_X1_bring : yV yX1_bring RX1 cX1_bring 2 (some .int) 0 := ⟨⟨tb2 34 rfl, tb2 35 rfl, tb1 3 rfl, tb2 36 rfl⟩, rfl, by decide +kernel, by decide +kernel, by decide +kernel⟩
theorem yv_X1_forget : yS yX1_forget cX1_forget 3 (none) 2 := ⟨⟨tb3 4 rfl, tb1 3 rfl, tb3 5 rfl⟩, by decide +kernel, by decide +kernel, by decide +kernel⟩
theorem yv_X1_letGo : yV yX1_letGo RX1 cX1_letGo 3 (none) 1 := ⟨⟨tb2 239 rfl, tb3 0 rfl, tb1 3 rfl, tb3 1 rfl⟩, rfl, by decide +kernel, by decide +kernel, by decide +kernel⟩
theorem yv_X1_emptyHoldersOf : yV yX1_emptyHoldersOf RX1 cX1_emptyHoldersOf 3 (none) 1 := ⟨⟨tb3 13 rfl, tb3 14 rfl, tb1 3 rfl, tb3 15 rfl⟩, rfl, by decide +kernel, by decide +kernel, by decide +kernel⟩
theorem yv_X1_setOfRoots : yV yX1_setOfRoots RX1 cX1_setOfRoots 3 (some .int) 0 := ⟨⟨tb2 103 rfl, tb2 104 rfl, tb1 3 rfl, tb2 105 rfl⟩, rfl, by decide +kernel, by decide +kernel, by decide +kernel⟩
theorem yv_X1_behind : yV yX1_behind RX1 cX1_behind 4 (some .int) 1 := ⟨⟨tb2 116 rfl, tb2 117 rfl, tb1 3 rfl, tb2 118 rfl⟩, rfl, by decide +kernel, by decide +kernel, by decide +kernel⟩
theorem yv_X1_reachedFrom : yV yX1_reachedFrom RX1 cX1_reachedFrom 6 (some .int) 2 := ⟨⟨tb2 112 rfl, tb2 113 rfl, tb1 3 rfl, tb2 114 rfl⟩, rfl, by decide +kernel, by decide +kernel, by decide +kernel⟩
theorem yv_X1_reachedByRoots : yV yX1_reachedByRoots RX1 cX1_reachedByRoots 1 (some .int) 0 := ⟨⟨tb3 50 rfl, tb3 51 rfl, tb1 3 rfl, tb3 52 rfl⟩, rfl, by decide +kernel, by decide +kernel, by decide +kernel⟩
theorem yv_X1_reachedByAll : yV yX1_reachedByAll RX1 cX1_reachedByAll 1 (some .int) 0 := ⟨⟨tb2 99 rfl, tb2 100 rfl, tb1 3 rfl, tb2 101 rfl⟩, rfl, by decide +kernel, by decide +kernel, by decide +kernel⟩
theorem yv_X1_distanceTo : yV yX1_distanceTo RX1 cX1_distanceTo 4 (some .int) 1 := ⟨⟨tb3 100 rfl, tb3 101 rfl, tb1 3 rfl, tb3 102 rfl⟩, rfl, by decide +kernel, by decide +kernel, by decide +kernel⟩
theorem yv_X4_isThere : yV yX4_isThere RX4 cX4_isThere 1 (some .boolean) 0 := ⟨⟨tb2 203 rfl, tb2 204 rfl, tb1 6 rfl, tb2 205 rfl⟩, rfl, by decide +kernel, by decide +kernel, by decide +kernel⟩
theorem yv_X4_needsCare : yV yX4_needsCare RX4 cX4_needsCare 1 (some .boolean) 0 := ⟨⟨tb2 52 rfl, tb2 53 rfl, tb1 6 rfl, tb2 54 rfl⟩, rfl, by decide +kernel, by decide +kernel, by decide +kernel⟩
theorem yv_X4_isBlack : yV yX4_isBlack RX4 cX4_isBlack 2 (some .boolean) 1 := ⟨⟨tb2 129 rfl, tb2 130 rfl, tb1 6 rfl, tb2 131 rfl⟩, rfl, by decide +kernel, by decide +kernel, by decide +kernel⟩
theorem yv_X4_colourOf : yV yX4_colourOf RX4 cX4_colourOf 2 (some .int) 1 := ⟨⟨tb3 45 rfl, tb3 46 rfl, tb1 6 rfl, tb3 47 rfl⟩, rfl, by decide +kernel, by decide +kernel, by decide +kernel⟩
theorem yv_X4_shade : yV yX4_shade RX4 cX4_shade 3 (none) 1 := ⟨⟨tb2 66 rfl, tb2 67 rfl, tb1 6 rfl, tb2 68 rfl⟩, rfl, by decide +kernel, by decide +kernel, by decide +kernel⟩
theorem yv_X4_colourNewOne : yV yX4_colourNewOne RX4 cX4_colourNewOne 2 (none) 1 := ⟨⟨tb2 48 rfl, tb2 49 rfl, tb1 6 rfl, tb2 50 rfl⟩, rfl, by decide +kernel, by decide +kernel, by decide +kernel⟩
theorem yv_X4_whiteOnes : yV yX4_whiteOnes RX4 cX4_whiteOnes 2 (some .int) 1 := ⟨⟨tb2 235 rfl, tb2 236 rfl, tb1 6 rfl, tb2 237 rfl⟩, rfl, by decide +kernel, by decide +kernel, by decide +kernel⟩
theorem yv_X4_open : yV yX4_open RX4 cX4_open 3 (none) 1 := ⟨⟨tb2 207 rfl, tb2 208 rfl, tb1 6 rfl, tb2 209 rfl⟩, rfl, by decide +kernel, by decide +kernel, by decide +kernel⟩
theorem yv_X4_findToFinish : yV yX4_findToFinish RX4 cX4_findToFinish 3 (none) 1 := ⟨⟨tb3 18 rfl, tbs (yX4_findToFinish, 9) (List.mem_of_getElem? (i := 6) rfl), tb1 6 rfl, tb3 19 rfl⟩, rfl, by decide +kernel, by decide +kernel, by decide +kernel⟩
theorem yv_X4_markFirst : yV yX4_markFirst RX4 cX4_markFirst 4 (none) 1 := ⟨⟨tb3 8 rfl, tbs (yX4_markFirst, 9) (List.mem_of_getElem? (i := 5) rfl), tb1 6 rfl, tb3 9 rfl⟩, rfl, by decide +kernel, by decide +kernel, by decide +kernel⟩
theorem yv_X4_sweep : yV yX4_sweep RX4 cX4_sweep 4 (none) 1 := ⟨⟨tb2 231 rfl, tbs (yX4_sweep, 9) (List.mem_of_getElem? (i := 4) rfl), tb1 6 rfl, tb2 232 rfl⟩, rfl, by decide +kernel, by decide +kernel, by decide +kernel⟩
theorem yv_X4_advance : yV yX4_advance RX4 cX4_advance 2 (none) 1 := ⟨⟨tb2 226 rfl, tb2 227 rfl, tb1 6 rfl, tb2 228 rfl⟩, rfl, by decide +kernel, by decide +kernel, by decide +kernel⟩
theorem yv_X5_takeCare : yV yX5_takeCare RX5 cX5_takeCare 4 (none) 3 := ⟨⟨tb2 62 rfl, tbs (yX5_takeCare, 6) (List.mem_of_getElem? (i := 2) rfl), tb1 2 rfl, tb2 63 rfl⟩, rfl, by decide +kernel, by decide +kernel, by decide +kernel⟩
theorem yv_X5_referRoot : yV yX5_referRoot RX5 cX5_referRoot 4 (none) 2 := ⟨⟨tb2 58 rfl, tbs (yX5_referRoot, 6) (List.mem_of_getElem? (i := 1) rfl), tb1 2 rfl, tb2 59 rfl⟩, rfl, by decide +kernel, by decide +kernel, by decide +kernel⟩
theorem yv_X5_create : yV yX5_create RX5 cX5_create 3 (some .int) 1 := ⟨⟨tb2 27 rfl, tb2 28 rfl, tb1 2 rfl, tb2 29 rfl⟩, rfl, by decide +kernel, by decide +kernel, by decide +kernel⟩
theorem yv_X5_writeField : yV yX5_writeField RX5 cX5_writeField 5 (some .int) 3 := ⟨⟨tb2 85 rfl, tb2 86 rfl, tb1 2 rfl, tb2 87 rfl⟩, rfl, by decide +kernel, by decide +kernel, by decide +kernel⟩
theorem yv_X5_writeRoot : yV yX5_writeRoot RX5 cX5_writeRoot 4 (some .int) 2 := ⟨⟨tb2 137 rfl, tb2 138 rfl, tb1 2 rfl, tb2 139 rfl⟩, rfl, by decide +kernel, by decide +kernel, by decide +kernel⟩
theorem yv_X5_writeHolder : yV yX5_writeHolder RX5 cX5_writeHolder 4 (some .int) 2 := ⟨⟨tb2 149 rfl, tb2 150 rfl, tb1 2 rfl, tb2 151 rfl⟩, rfl, by decide +kernel, by decide +kernel, by decide +kernel⟩
theorem yv_X5_shadeIfCareIsNeeded : yV yX5_shadeIfCareIsNeeded RX5 cX5_shadeIfCareIsNeeded 2 (none) 1 := ⟨⟨tb2 166 rfl, tbs (yX5_shadeIfCareIsNeeded, 6) (List.mem_of_getElem? (i := 3) rfl), tb1 2 rfl, tb2 167 rfl⟩, rfl, by decide +kernel, by decide +kernel, by decide +kernel⟩
theorem yv_X5_askHolder : yV yX5_askHolder RX5 cX5_askHolder 4 (some .int) 2 := ⟨⟨tb2 161 rfl, tb2 162 rfl, tb1 2 rfl, tb2 163 rfl⟩, rfl, by decide +kernel, by decide +kernel, by decide +kernel⟩
theorem yv_X5_wishFinish : yV yX5_wishFinish RX5 cX5_wishFinish 2 (some .int) 1 := ⟨⟨tb2 173 rfl, tb2 174 rfl, tb1 2 rfl, tb2 175 rfl⟩, rfl, by decide +kernel, by decide +kernel, by decide +kernel⟩
theorem yv_X5_finishFirst : yV yX5_finishFirst RX5 cX5_finishFirst 3 (some .int) 1 := ⟨⟨tb2 187 rfl, tb2 188 rfl, tb1 2 rfl, tb2 189 rfl⟩, rfl, by decide +kernel, by decide +kernel, by decide +kernel⟩
theorem yv_X5_beginSearch : yV yX5_beginSearch RX5 cX5_beginSearch 1 (some .int) 0 := ⟨⟨tb2 199 rfl, tb2 200 rfl, tb1 2 rfl, tb2 201 rfl⟩, rfl, by decide +kernel, by decide +kernel, by decide +kernel⟩
theorem yv_X5_doSteps : yV yX5_doSteps RX5 cX5_doSteps 4 (some .int) 1 := ⟨⟨tb2 222 rfl, tb2 223 rfl, tb1 2 rfl, tb2 224 rfl⟩, rfl, by decide +kernel, by decide +kernel, by decide +kernel⟩
theorem yv_X5_doAllSteps : yV yX5_doAllSteps RX5 cX5_doAllSteps 2 (some .int) 0 := ⟨⟨tb3 25 rfl, tb3 26 rfl, tb1 2 rfl, tb3 27 rfl⟩, rfl, by decide +kernel, by decide +kernel, by decide +kernel⟩
theorem yv_X5_setCare : yV yX5_setCare RX5 cX5_setCare 3 (some .int) 1 := ⟨⟨tb3 33 rfl, tb3 34 rfl, tb1 2 rfl, tb3 35 rfl⟩, rfl, by decide +kernel, by decide +kernel, by decide +kernel⟩
theorem yv_X5_tellObject : yV yX5_tellObject RX5 cX5_tellObject 3 (some .int) 2 := ⟨⟨tb3 41 rfl, tb3 42 rfl, tb1 2 rfl, tb3 43 rfl⟩, rfl, by decide +kernel, by decide +kernel, by decide +kernel⟩
theorem yv_X5_tellSet : yV yX5_tellSet RX5 cX5_tellSet 2 (some .int) 1 := ⟨⟨tb3 77 rfl, tb3 78 rfl, tb1 2 rfl, tb3 79 rfl⟩, rfl, by decide +kernel, by decide +kernel, by decide +kernel⟩
theorem yv_X5_tellNumber : yV yX5_tellNumber RX5 cX5_tellNumber 2 (some .int) 1 := ⟨⟨tb3 86 rfl, tb3 87 rfl, tb1 2 rfl, tb3 88 rfl⟩, rfl, by decide +kernel, by decide +kernel, by decide +kernel⟩
theorem yv_X5_lateOnes : yV yX5_lateOnes RX5 cX5_lateOnes 2 (some .int) 0 := ⟨⟨tb3 120 rfl, tb3 121 rfl, tb1 2 rfl, tb3 122 rfl⟩, rfl, by decide +kernel, by decide +kernel, by decide +kernel⟩
theorem yv_X0_append : yV yX0_append RX0 cX0_append 2 (some .int) 1 := ⟨⟨tb3 146 rfl, tb3 147 rfl, tb1 8 rfl, tb3 148 rfl⟩, rfl, by decide +kernel, by decide +kernel, by decide +kernel⟩
theorem yv_X0_empty : yV yX0_empty RX0 cX0_empty 2 (some .int) 0 := ⟨⟨tb3 154 rfl, tb3 155 rfl, tb1 8 rfl, tb3 156 rfl⟩, rfl, by decide +kernel, by decide +kernel, by decide +kernel⟩
theorem yv_X0_tellFault : yV yX0_tellFault RX0 cX0_tellFault 2 (some .int) 1 := ⟨⟨tb3 195 rfl, tb3 196 rfl, tb1 8 rfl, tb3 197 rfl⟩, rfl, by decide +kernel, by decide +kernel, by decide +kernel⟩
theorem yv_X0_signAt : yV yX0_signAt RX0 cX0_signAt 2 (some .int) 1 := ⟨⟨tb3 171 rfl, tbs (yX0_signAt, 11) (List.mem_of_getElem? (i := 8) rfl), tb1 8 rfl, tb3 172 rfl⟩, rfl, by decide +kernel, by decide +kernel, by decide +kernel⟩
theorem yv_X0_read : yV yX0_read RX0 cX0_read 2 (some .boolean) 1 := ⟨⟨tb3 175 rfl, tbs (yX0_read, 11) (List.mem_of_getElem? (i := 9) rfl), tb1 8 rfl, tb3 176 rfl⟩, rfl, by decide +kernel, by decide +kernel, by decide +kernel⟩
theorem yv_X0_readNumber : yV yX0_readNumber RX0 cX0_readNumber 3 (some .int) 0 := ⟨⟨tb3 179 rfl, tbs (yX0_readNumber, 11) (List.mem_of_getElem? (i := 10) rfl), tb1 8 rfl, tb3 180 rfl⟩, rfl, by decide +kernel, by decide +kernel, by decide +kernel⟩
theorem yv_X0_readTarget : yV yX0_readTarget RX0 cX0_readTarget 1 (some .int) 0 := ⟨⟨tb3 186 rfl, tbs (yX0_readTarget, 11) (List.mem_of_getElem? (i := 11) rfl), tb1 8 rfl, tb3 187 rfl⟩, rfl, by decide +kernel, by decide +kernel, by decide +kernel⟩
theorem yv_X0_readCommand : yV yX0_readCommand RX0 cX0_readCommand 1 (some .boolean) 0 := ⟨⟨tb3 167 rfl, tbs (yX0_readCommand, 11) (List.mem_of_getElem? (i := 7) rfl), tb1 8 rfl, tb3 168 rfl⟩, rfl, by decide +kernel, by decide +kernel, by decide +kernel⟩
theorem yv_X0_tryOn : yV yX0_tryOn RX0 cX0_tryOn 3 (none) 1 := ⟨⟨tb3 162 rfl, tb3 163 rfl, tb1 8 rfl, tb3 164 rfl⟩, rfl, by decide +kernel, by decide +kernel, by decide +kernel⟩
theorem yv_X7_copies : yS yX7_copies cX7_copies 3 (none) 2 := ⟨⟨tb4 200 rfl, tb1 9 rfl, tb4 201 rfl⟩, by decide +kernel, by decide +kernel, by decide +kernel⟩
theorem yv_X7_changes : yV yX7_changes RX7 cX7_changes 2 (none) 0 := ⟨⟨tb4 34 rfl, tbs (yX7_changes, 15) (List.mem_of_getElem? (i := 14) rfl), tb1 9 rfl, tb4 35 rfl⟩, rfl, by decide +kernel, by decide +kernel, by decide +kernel⟩
theorem yv_X7_of : yV yX7_of RX7 cX7_of 3 (some .int) 2 := ⟨⟨tb4 30 rfl, tbs (yX7_of, 15) (List.mem_of_getElem? (i := 13) rfl), tb1 9 rfl, tb4 31 rfl⟩, rfl, by decide +kernel, by decide +kernel, by decide +kernel⟩
theorem yv_X7_sets : yV yX7_sets RX7 cX7_sets 4 (none) 3 := ⟨⟨tb4 38 rfl, tbs (yX7_sets, 15) (List.mem_of_getElem? (i := 15) rfl), tb1 9 rfl, tb4 39 rfl⟩, rfl, by decide +kernel, by decide +kernel, by decide +kernel⟩
theorem yv_X7_shades : yV yX7_shades RX7 cX7_shades 2 (none) 1 := ⟨⟨tb4 54 rfl, tbs (yX7_shades, 15) (List.mem_of_getElem? (i := 19) rfl), tb1 9 rfl, tb4 55 rfl⟩, rfl, by decide +kernel, by decide +kernel, by decide +kernel⟩
theorem yv_X7_begins : yV yX7_begins RX7 cX7_begins 2 (none) 0 := ⟨⟨tb4 114 rfl, tbs (yX7_begins, 15) (List.mem_of_getElem? (i := 27) rfl), tb1 9 rfl, tb4 115 rfl⟩, rfl, by decide +kernel, by decide +kernel, by decide +kernel⟩
theorem yv_X7_takes : yV yX7_takes RX7 cX7_takes 4 (some .int) 1 := ⟨⟨tb4 106 rfl, tbs (yX7_takes, 15) (List.mem_of_getElem? (i := 26) rfl), tb1 9 rfl, tb4 107 rfl⟩, rfl, by decide +kernel, by decide +kernel, by decide +kernel⟩
theorem yv_X7_blackens : yV yX7_blackens RX7 cX7_blackens 3 (none) 0 := ⟨⟨tb4 134 rfl, tbs (yX7_blackens, 15) (List.mem_of_getElem? (i := 31) rfl), tb1 9 rfl, tb4 135 rfl⟩, rfl, by decide +kernel, by decide +kernel, by decide +kernel⟩
theorem yv_X7_clears : yV yX7_clears RX7 cX7_clears 3 (none) 0 := ⟨⟨tb4 138 rfl, tbs (yX7_clears, 15) (List.mem_of_getElem? (i := 32) rfl), tb1 9 rfl, tb4 139 rfl⟩, rfl, by decide +kernel, by decide +kernel, by decide +kernel⟩
theorem yv_X7_isObject : yV yX7_isObject RX7 cX7_isObject 2 (some .boolean) 1 := ⟨⟨tb4 62 rfl, tbs (yX7_isObject, 15) (List.mem_of_getElem? (i := 20) rfl), tb1 9 rfl, tb4 63 rfl⟩, rfl, by decide +kernel, by decide +kernel, by decide +kernel⟩
theorem yv_X7_looksForFinish : yV yX7_looksForFinish RX7 cX7_looksForFinish 3 (none) 0 := ⟨⟨tb4 142 rfl, tbs (yX7_looksForFinish, 15) (List.mem_of_getElem? (i := 33) rfl), tb1 9 rfl, tb4 143 rfl⟩, rfl, by decide +kernel, by decide +kernel, by decide +kernel⟩
theorem yv_X7_letsGo : yV yX7_letsGo RX7 cX7_letsGo 4 (none) 1 := ⟨⟨tb4 130 rfl, tbs (yX7_letsGo, 15) (List.mem_of_getElem? (i := 30) rfl), tb1 9 rfl, tb4 131 rfl⟩, rfl, by decide +kernel, by decide +kernel, by decide +kernel⟩
theorem yv_X7_sweeps : yV yX7_sweeps RX7 cX7_sweeps 2 (none) 0 := ⟨⟨tb4 126 rfl, tbs (yX7_sweeps, 15) (List.mem_of_getElem? (i := 29) rfl), tb1 9 rfl, tb4 127 rfl⟩, rfl, by decide +kernel, by decide +kernel, by decide +kernel⟩
theorem yv_X7_steps : yV yX7_steps RX7 cX7_steps 1 (none) 0 := ⟨⟨tb4 122 rfl, tbs (yX7_steps, 15) (List.mem_of_getElem? (i := 28) rfl), tb1 9 rfl, tb4 123 rfl⟩, rfl, by decide +kernel, by decide +kernel, by decide +kernel⟩
theorem yv_X7_doesAll : yV yX7_doesAll RX7 cX7_doesAll 2 (some .int) 0 := ⟨⟨tb4 150 rfl, tbs (yX7_doesAll, 15) (List.mem_of_getElem? (i := 34) rfl), tb1 9 rfl, tb4 151 rfl⟩, rfl, by decide +kernel, by decide +kernel, by decide +kernel⟩
theorem yv_X7_all : yV yX7_all RX7 cX7_all 1 (some .int) 0 := ⟨⟨tb4 145 rfl, tb4 146 rfl, tb1 9 rfl, tb4 147 rfl⟩, rfl, by decide +kernel, by decide +kernel, by decide +kernel⟩
theorem yv_X7_isMarking : yV yX7_isMarking RX7 cX7_isMarking 1 (some .boolean) 0 := ⟨⟨tb4 42 rfl, tbs (yX7_isMarking, 15) (List.mem_of_getElem? (i := 16) rfl), tb1 9 rfl, tb4 43 rfl⟩, rfl, by decide +kernel, by decide +kernel, by decide +kernel⟩
theorem yv_X7_cares : yV yX7_cares RX7 cX7_cares 4 (none) 3 := ⟨⟨tb4 50 rfl, tbs (yX7_cares, 15) (List.mem_of_getElem? (i := 18) rfl), tb1 9 rfl, tb4 51 rfl⟩, rfl, by decide +kernel, by decide +kernel, by decide +kernel⟩
theorem yv_X7_writesRoot : yV yX7_writesRoot RX7 cX7_writesRoot 4 (some .int) 2 := ⟨⟨tb4 46 rfl, tbs (yX7_writesRoot, 15) (List.mem_of_getElem? (i := 17) rfl), tb1 9 rfl, tb4 47 rfl⟩, rfl, by decide +kernel, by decide +kernel, by decide +kernel⟩
theorem yv_X7_ask : yV yX7_ask RX7 cX7_ask 5 (some .int) 2 := ⟨⟨tb4 89 rfl, tb4 90 rfl, tb1 9 rfl, tb4 91 rfl⟩, rfl, by decide +kernel, by decide +kernel, by decide +kernel⟩
theorem yv_X7_begin : yV yX7_begin RX7 cX7_begin 1 (some .int) 0 := ⟨⟨tb4 109 rfl, tb4 110 rfl, tb1 9 rfl, tb4 111 rfl⟩, rfl, by decide +kernel, by decide +kernel, by decide +kernel⟩
theorem yv_X7_spreads : yV yX7_spreads RX7 cX7_spreads 9 (some .int) 2 := ⟨⟨tb4 78 rfl, tbs (yX7_spreads, 15) (List.mem_of_getElem? (i := 24) rfl), tb1 9 rfl, tb4 79 rfl⟩, rfl, by decide +kernel, by decide +kernel, by decide +kernel⟩
theorem yv_X7_rooted : yV yX7_rooted RX7 cX7_rooted 5 (some .int) 1 := ⟨⟨tb4 74 rfl, tbs (yX7_rooted, 15) (List.mem_of_getElem? (i := 23) rfl), tb1 9 rfl, tb4 75 rfl⟩, rfl, by decide +kernel, by decide +kernel, by decide +kernel⟩
theorem yv_X7_reached : yV yX7_reached RX7 cX7_reached 3 (some .int) 0 := ⟨⟨tb4 70 rfl, tbs (yX7_reached, 15) (List.mem_of_getElem? (i := 22) rfl), tb1 9 rfl, tb4 71 rfl⟩, rfl, by decide +kernel, by decide +kernel, by decide +kernel⟩
theorem yv_X7_isReached : yV yX7_isReached RX7 cX7_isReached 2 (some .boolean) 1 := ⟨⟨tb4 66 rfl, tbs (yX7_isReached, 15) (List.mem_of_getElem? (i := 21) rfl), tb1 9 rfl, tb4 67 rfl⟩, rfl, by decide +kernel, by decide +kernel, by decide +kernel⟩
theorem yv_X7_field : yV yX7_field RX7 cX7_field 5 (some .int) 3 := ⟨⟨tb4 57 rfl, tb4 58 rfl, tb1 9 rfl, tb4 59 rfl⟩, rfl, by decide +kernel, by decide +kernel, by decide +kernel⟩
theorem yv_X7_lowestFree : yV yX7_lowestFree RX7 cX7_lowestFree 2 (some .int) 0 := ⟨⟨tb4 26 rfl, tbs (yX7_lowestFree, 15) (List.mem_of_getElem? (i := 12) rfl), tb1 9 rfl, tb4 27 rfl⟩, rfl, by decide +kernel, by decide +kernel, by decide +kernel⟩
theorem yv_X7_make : yV yX7_make RX7 cX7_make 4 (some .int) 1 := ⟨⟨tb4 15 rfl, tb4 16 rfl, tb1 9 rfl, tb4 17 rfl⟩, rfl, by decide +kernel, by decide +kernel, by decide +kernel⟩
theorem yv_X7_root : yV yX7_root RX7 cX7_root 3 (some .int) 2 := ⟨⟨tb4 81 rfl, tb4 82 rfl, tb1 9 rfl, tb4 83 rfl⟩, rfl, by decide +kernel, by decide +kernel, by decide +kernel⟩
theorem yv_X7_step : yV yX7_step RX7 cX7_step 4 (some .int) 1 := ⟨⟨tb4 117 rfl, tb4 118 rfl, tb1 9 rfl, tb4 119 rfl⟩, rfl, by decide +kernel, by decide +kernel, by decide +kernel⟩
theorem yv_X7_calls : yV yX7_calls RX7 cX7_calls 1 (some .int) 0 := ⟨⟨tb5 17 rfl, tbs (yX7_calls, 15) (List.mem_of_getElem? (i := 43) rfl), tb1 9 rfl, tb5 18 rfl⟩, rfl, by decide +kernel, by decide +kernel, by decide +kernel⟩
theorem yv_X7_clearText : yV yX7_clearText RX7 cX7_clearText 2 (some .int) 0 := ⟨⟨tb4 224 rfl, tb4 225 rfl, tb1 9 rfl, tb4 226 rfl⟩, rfl, by decide +kernel, by decide +kernel, by decide +kernel⟩
theorem yv_X7_those : yV yX7_those RX7 cX7_those 5 (some .int) 2 := ⟨⟨tb4 178 rfl, tbs (yX7_those, 15) (List.mem_of_getElem? (i := 36) rfl), tb1 9 rfl, tb4 179 rfl⟩, rfl, by decide +kernel, by decide +kernel, by decide +kernel⟩
theorem yv_X7_count : yV yX7_count RX7 cX7_count 2 (some .int) 1 := ⟨⟨tb4 181 rfl, tb4 182 rfl, tb1 9 rfl, tb4 183 rfl⟩, rfl, by decide +kernel, by decide +kernel, by decide +kernel⟩
theorem yv_X7_far : yV yX7_far RX7 cX7_far 8 (some .int) 1 := ⟨⟨tb4 188 rfl, tb4 189 rfl, tb1 9 rfl, tb4 190 rfl⟩, rfl, by decide +kernel, by decide +kernel, by decide +kernel⟩
theorem yv_X7_isAt : yV yX7_isAt RX7 cX7_isAt 3 (some .boolean) 2 := ⟨⟨tb5 5 rfl, tbs (yX7_isAt, 15) (List.mem_of_getElem? (i := 40) rfl), tb1 9 rfl, tb5 6 rfl⟩, rfl, by decide +kernel, by decide +kernel, by decide +kernel⟩
theorem yv_X7_number : yV yX7_number RX7 cX7_number 3 (some .boolean) 1 := ⟨⟨tb5 9 rfl, tbs (yX7_number, 15) (List.mem_of_getElem? (i := 41) rfl), tb1 9 rfl, tb5 10 rfl⟩, rfl, by decide +kernel, by decide +kernel, by decide +kernel⟩
theorem yv_X7_sign : yV yX7_sign RX7 cX7_sign 3 (some .boolean) 1 := ⟨⟨tb5 1 rfl, tbs (yX7_sign, 15) (List.mem_of_getElem? (i := 39) rfl), tb1 9 rfl, tb5 2 rfl⟩, rfl, by decide +kernel, by decide +kernel, by decide +kernel⟩
theorem yv_X7_target : yV yX7_target RX7 cX7_target 2 (some .boolean) 1 := ⟨⟨tb5 13 rfl, tbs (yX7_target, 15) (List.mem_of_getElem? (i := 42) rfl), tb1 9 rfl, tb5 14 rfl⟩, rfl, by decide +kernel, by decide +kernel, by decide +kernel⟩
theorem yv_X7_reads : yV yX7_reads RX7 cX7_reads 1 (some .boolean) 0 := ⟨⟨tb4 237 rfl, tbs (yX7_reads, 15) (List.mem_of_getElem? (i := 38) rfl), tb1 9 rfl, tb4 238 rfl⟩, rfl, by decide +kernel, by decide +kernel, by decide +kernel⟩
theorem yv_X7_plays : yV yX7_plays RX7 cX7_plays 4 (some .int) 0 := ⟨⟨tb4 233 rfl, tbs (yX7_plays, 15) (List.mem_of_getElem? (i := 37) rfl), tb1 9 rfl, tb4 234 rfl⟩, rfl, by decide +kernel, by decide +kernel, by decide +kernel⟩
theorem yv_X7_fault : yV yX7_fault RX7 cX7_fault 3 (some .int) 1 := ⟨⟨tb4 228 rfl, tb4 229 rfl, tb1 9 rfl, tb4 230 rfl⟩, rfl, by decide +kernel, by decide +kernel, by decide +kernel⟩
theorem yv_X7_finish : yV yX7_finish RX7 cX7_finish 4 (some .int) 1 := ⟨⟨tb4 101 rfl, tb4 102 rfl, tb1 9 rfl, tb4 103 rfl⟩, rfl, by decide +kernel, by decide +kernel, by decide +kernel⟩
theorem yv_X7_grey : yV yX7_grey RX7 cX7_grey 2 (some .int) 1 := ⟨⟨tb4 169 rfl, tb4 170 rfl, tb1 9 rfl, tb4 171 rfl⟩, rfl, by decide +kernel, by decide +kernel, by decide +kernel⟩
theorem yv_X7_hangs : yV yX7_hangs RX7 cX7_hangs 3 (some .int) 1 := ⟨⟨tb4 192 rfl, tb4 193 rfl, tb1 9 rfl, tb4 194 rfl⟩, rfl, by decide +kernel, by decide +kernel, by decide +kernel⟩
theorem yv_X7_keep : yV yX7_keep RX7 cX7_keep 1 (some .int) 0 := ⟨⟨tb4 207 rfl, tb4 208 rfl, tb1 9 rfl, tb4 209 rfl⟩, rfl, by decide +kernel, by decide +kernel, by decide +kernel⟩
theorem yv_X7_late : yV yX7_late RX7 cX7_late 5 (some .int) 0 := ⟨⟨tb4 203 rfl, tb4 204 rfl, tb1 9 rfl, tb4 205 rfl⟩, rfl, by decide +kernel, by decide +kernel, by decide +kernel⟩
theorem yv_X7_placeIn : yV yX7_placeIn RX7 cX7_placeIn 3 (some .int) 1 := ⟨⟨tb4 162 rfl, tbs (yX7_placeIn, 15) (List.mem_of_getElem? (i := 35) rfl), tb1 9 rfl, tb4 163 rfl⟩, rfl, by decide +kernel, by decide +kernel, by decide +kernel⟩
theorem yv_X7_objectOf : yV yX7_objectOf RX7 cX7_objectOf 3 (some .int) 2 := ⟨⟨tb4 157 rfl, tb4 158 rfl, tb1 9 rfl, tb4 159 rfl⟩, rfl, by decide +kernel, by decide +kernel, by decide +kernel⟩
theorem yv_X7_objects : yV yX7_objects RX7 cX7_objects 2 (some .int) 1 := ⟨⟨tb4 173 rfl, tb4 174 rfl, tb1 9 rfl, tb4 175 rfl⟩, rfl, by decide +kernel, by decide +kernel, by decide +kernel⟩
theorem yv_X7_play : yV yX7_play RX7 cX7_play 2 (some .int) 0 := ⟨⟨tb5 25 rfl, tb5 26 rfl, tb1 9 rfl, tb5 27 rfl⟩, rfl, by decide +kernel, by decide +kernel, by decide +kernel⟩
theorem yv_X7_refers : yV yX7_refers RX7 cX7_refers 4 (some .int) 2 := ⟨⟨tb4 165 rfl, tb4 166 rfl, tb1 9 rfl, tb4 167 rfl⟩, rfl, by decide +kernel, by decide +kernel, by decide +kernel⟩
theorem yv_X7_restore : yV yX7_restore RX7 cX7_restore 1 (some .int) 0 := ⟨⟨tb4 212 rfl, tb4 213 rfl, tb1 9 rfl, tb4 214 rfl⟩, rfl, by decide +kernel, by decide +kernel, by decide +kernel⟩
theorem yv_X7_set : yV yX7_set RX7 cX7_set 3 (some .int) 1 := ⟨⟨tb4 153 rfl, tb4 154 rfl, tb1 9 rfl, tb4 155 rfl⟩, rfl, by decide +kernel, by decide +kernel, by decide +kernel⟩
theorem yv_X7_type : yV yX7_type RX7 cX7_type 2 (some .int) 1 := ⟨⟨tb4 220 rfl, tb4 221 rfl, tb1 9 rfl, tb4 222 rfl⟩, rfl, by decide +kernel, by decide +kernel, by decide +kernel⟩
theorem yv_X7_undo : yV yX7_undo RX7 cX7_undo 2 (some .int) 0 := ⟨⟨tb4 216 rfl, tb4 217 rfl, tb1 9 rfl, tb4 218 rfl⟩, rfl, by decide +kernel, by decide +kernel, by decide +kernel⟩
theorem yv_X7_wanting : yV yX7_wanting RX7 cX7_wanting 3 (some .int) 0 := ⟨⟨tb4 98 rfl, tbs (yX7_wanting, 15) (List.mem_of_getElem? (i := 25) rfl), tb1 9 rfl, tb4 99 rfl⟩, rfl, by decide +kernel, by decide +kernel, by decide +kernel⟩
theorem yv_X7_want : yV yX7_want RX7 cX7_want 2 (some .int) 1 := ⟨⟨tb4 93 rfl, tb4 94 rfl, tb1 9 rfl, tb4 95 rfl⟩, rfl, by decide +kernel, by decide +kernel, by decide +kernel⟩
theorem yv_X7_weak : yV yX7_weak RX7 cX7_weak 4 (some .int) 2 := ⟨⟨tb4 85 rfl, tb4 86 rfl, tb1 9 rfl, tb4 87 rfl⟩, rfl, by decide +kernel, by decide +kernel, by decide +kernel⟩
theorem yv_X7_wouldGo : yV yX7_wouldGo RX7 cX7_wouldGo 4 (some .int) 0 := ⟨⟨tb4 196 rfl, tb4 197 rfl, tb1 9 rfl, tb4 198 rfl⟩, rfl, by decide +kernel, by decide +kernel, by decide +kernel⟩
theorem yv_X3_copyFrom : yV yX3_copyFrom RX3 cX3_copyFrom 2 (none) 1 := ⟨⟨tb2 16 rfl, tb2 17 rfl, tb1 4 rfl, tb2 18 rfl⟩, rfl, by decide +kernel, by decide +kernel, by decide +kernel⟩
theorem yv_X1_copyFrom : yV yX1_copyFrom RX1 cX1_copyFrom 2 (none) 1 := ⟨⟨tb2 9 rfl, tb2 10 rfl, tb1 3 rfl, tb2 11 rfl⟩, rfl, by decide +kernel, by decide +kernel, by decide +kernel⟩
theorem yv_X4_copyFrom : yV yX4_copyFrom RX4 cX4_copyFrom 2 (none) 1 := ⟨⟨tb2 21 rfl, tb2 22 rfl, tb1 6 rfl, tb2 23 rfl⟩, rfl, by decide +kernel, by decide +kernel, by decide +kernel⟩
theorem yv_X5_copyFrom : yV yX5_copyFrom RX5 cX5_copyFrom 2 (none) 1 := ⟨⟨tb2 5 rfl, tb2 6 rfl, tb1 2 rfl, tb2 7 rfl⟩, rfl, by decide +kernel, by decide +kernel, by decide +kernel⟩
theorem gC_X0 : gC RX0 TX0 11 tyX0 := ⟨inX0, tyX0_ok, nmX0⟩
theorem gC_X1 : gC RX1 TX1 6 tyX1 := ⟨inX1, tyX1_ok, nmX1⟩
theorem gC_X2 : gC RX2 TX2 3 tyX2 := ⟨inX2, tyX2_ok, nmX2⟩
theorem gC_X3 : gC RX3 TX3 2 tyX3 := ⟨inX3, tyX3_ok, nmX3⟩
theorem gC_X4 : gC RX4 TX4 9 tyX4 := ⟨inX4, tyX4_ok, nmX4⟩
theorem gC_X5 : gC RX5 TX5 6 tyX5 := ⟨inX5, tyX5_ok, nmX5⟩
theorem gC_X6 : gC RX6 TX6 6 tyX6 := ⟨inX6, tyX6_ok, nmX6⟩
theorem gC_X7 : gC RX7 TX7 15 tyX7 := ⟨inX7, tyX7_ok, nmX7⟩
theorem nat_cp : Cond.native arraycopyName ∈ lw_g := tb2 14 rfl
theorem st_cp : Cond.static arraycopyName ∈ lw_g := tb2 13 rfl
theorem ini_cp : Cond.initialized "java/lang/System" ∈ lw_g := tb1 11 rfl
theorem st_max : Cond.static Lib.Math.max.name ∈ lw_g := tb2 41 rfl
theorem ini_max : Cond.initialized "java/lang/Math" ∈ lw_g := tb1 10 rfl
theorem co_max : Cond.code Lib.Math.max.name Lib.Math.max.code 2 (some .int) ∈ lw_g := tb2 42 rfl
def wS (ad : Nat → Nat) (cI : ClassId × ClassId) (w : St) : va_W := [(ad 0, .inr (0, [.ref (ad 1), .int (w.1 0), .int (w.1 1), .int (w.1 2), .int (w.1 3), .int (w.1 4), .int (w.1 5), .int (w.1 6), .int (w.1 7), .int (w.1 8), .int (w.1 9)])), (ad 1, .inl (cI.1, 60, .inl (w.2 0))), (ad 2, .inr (5, [.ref (ad 3), .ref (ad 4), .ref (ad 12), .int (w.1 10), .int (w.1 11), .int (w.1 12)])), (ad 3, .inr (1, [.int (w.1 13), .int (w.1 14), .ref (ad 7), .ref (ad 8), .ref (ad 9), .ref (ad 5)])), (ad 4, .inr (4, [.int (w.1 15), .int (w.1 16), .int (w.1 17), .ref (ad 6), .int (w.1 18), .int (w.1 19), .int (w.1 20), .int (w.1 21), .int (w.1 22)])), (ad 5, .inr (3, [.ref (ad 10), .int (w.1 23)])), (ad 6, .inr (3, [.ref (ad 11), .int (w.1 24)])), (ad 7, .inl (cI.1, 72, .inl (w.2 1))), (ad 8, .inl (cI.1, 4, .inl (w.2 2))), (ad 9, .inl (cI.1, 4, .inl (w.2 3))), (ad 10, .inl (cI.1, 24, .inl (w.2 4))), (ad 11, .inl (cI.1, 24, .inl (w.2 5))), (ad 12, .inl (cI.1, 24, .inl (w.2 6)))]
theorem pwS_0 (ad : Nat → Nat) (cI : ClassId × ClassId) (w : St) (v : Int32) : (wS ad cI w).set 0 (ad 0, .inr (0, [.ref (ad 1), .int (w.1 0), .int (w.1 1), .int (w.1 2), .int (w.1 3), .int (w.1 4), .int (w.1 5), .int (w.1 6), .int (w.1 7), .int (w.1 8), .int (w.1 9)].set 1 (.int v))) = wS ad cI (sR w 0 v) := rfl
theorem pwS_1 (ad : Nat → Nat) (cI : ClassId × ClassId) (w : St) (v : Int32) : (wS ad cI w).set 0 (ad 0, .inr (0, [.ref (ad 1), .int (w.1 0), .int (w.1 1), .int (w.1 2), .int (w.1 3), .int (w.1 4), .int (w.1 5), .int (w.1 6), .int (w.1 7), .int (w.1 8), .int (w.1 9)].set 2 (.int v))) = wS ad cI (sR w 1 v) := rfl
theorem pwS_2 (ad : Nat → Nat) (cI : ClassId × ClassId) (w : St) (v : Int32) : (wS ad cI w).set 0 (ad 0, .inr (0, [.ref (ad 1), .int (w.1 0), .int (w.1 1), .int (w.1 2), .int (w.1 3), .int (w.1 4), .int (w.1 5), .int (w.1 6), .int (w.1 7), .int (w.1 8), .int (w.1 9)].set 3 (.int v))) = wS ad cI (sR w 2 v) := rfl
theorem pwS_3 (ad : Nat → Nat) (cI : ClassId × ClassId) (w : St) (v : Int32) : (wS ad cI w).set 0 (ad 0, .inr (0, [.ref (ad 1), .int (w.1 0), .int (w.1 1), .int (w.1 2), .int (w.1 3), .int (w.1 4), .int (w.1 5), .int (w.1 6), .int (w.1 7), .int (w.1 8), .int (w.1 9)].set 4 (.int v))) = wS ad cI (sR w 3 v) := rfl
theorem pwS_4 (ad : Nat → Nat) (cI : ClassId × ClassId) (w : St) (v : Int32) : (wS ad cI w).set 0 (ad 0, .inr (0, [.ref (ad 1), .int (w.1 0), .int (w.1 1), .int (w.1 2), .int (w.1 3), .int (w.1 4), .int (w.1 5), .int (w.1 6), .int (w.1 7), .int (w.1 8), .int (w.1 9)].set 5 (.int v))) = wS ad cI (sR w 4 v) := rfl
theorem pwS_5 (ad : Nat → Nat) (cI : ClassId × ClassId) (w : St) (v : Int32) : (wS ad cI w).set 0 (ad 0, .inr (0, [.ref (ad 1), .int (w.1 0), .int (w.1 1), .int (w.1 2), .int (w.1 3), .int (w.1 4), .int (w.1 5), .int (w.1 6), .int (w.1 7), .int (w.1 8), .int (w.1 9)].set 6 (.int v))) = wS ad cI (sR w 5 v) := rfl
theorem pwS_6 (ad : Nat → Nat) (cI : ClassId × ClassId) (w : St) (v : Int32) : (wS ad cI w).set 0 (ad 0, .inr (0, [.ref (ad 1), .int (w.1 0), .int (w.1 1), .int (w.1 2), .int (w.1 3), .int (w.1 4), .int (w.1 5), .int (w.1 6), .int (w.1 7), .int (w.1 8), .int (w.1 9)].set 7 (.int v))) = wS ad cI (sR w 6 v) := rfl
theorem pwS_7 (ad : Nat → Nat) (cI : ClassId × ClassId) (w : St) (v : Int32) : (wS ad cI w).set 0 (ad 0, .inr (0, [.ref (ad 1), .int (w.1 0), .int (w.1 1), .int (w.1 2), .int (w.1 3), .int (w.1 4), .int (w.1 5), .int (w.1 6), .int (w.1 7), .int (w.1 8), .int (w.1 9)].set 8 (.int v))) = wS ad cI (sR w 7 v) := rfl
theorem pwS_8 (ad : Nat → Nat) (cI : ClassId × ClassId) (w : St) (v : Int32) : (wS ad cI w).set 0 (ad 0, .inr (0, [.ref (ad 1), .int (w.1 0), .int (w.1 1), .int (w.1 2), .int (w.1 3), .int (w.1 4), .int (w.1 5), .int (w.1 6), .int (w.1 7), .int (w.1 8), .int (w.1 9)].set 9 (.int v))) = wS ad cI (sR w 8 v) := rfl
theorem pwS_9 (ad : Nat → Nat) (cI : ClassId × ClassId) (w : St) (v : Int32) : (wS ad cI w).set 0 (ad 0, .inr (0, [.ref (ad 1), .int (w.1 0), .int (w.1 1), .int (w.1 2), .int (w.1 3), .int (w.1 4), .int (w.1 5), .int (w.1 6), .int (w.1 7), .int (w.1 8), .int (w.1 9)].set 10 (.int v))) = wS ad cI (sR w 9 v) := rfl
theorem gwS_0 (ad : Nat → Nat) (cI : ClassId × ClassId) (w : St) (g : Nat → Int32) : (wS ad cI w).set 1 (ad 1, .inl (cI.1, 60, .inl g)) = wS ad cI (sG w 0 g) := rfl
theorem awS_0 (ad : Nat → Nat) (cI : ClassId × ClassId) (w : St) (i x : Int32) : (wS ad cI w).set 1 (ad 1, .inl (cI.1, 60, .inl (upd (w.2 0) i.toNatClampNeg x))) = wS ad cI (sA w 0 i x) := rfl
theorem pwS_10 (ad : Nat → Nat) (cI : ClassId × ClassId) (w : St) (v : Int32) : (wS ad cI w).set 2 (ad 2, .inr (5, [.ref (ad 3), .ref (ad 4), .ref (ad 12), .int (w.1 10), .int (w.1 11), .int (w.1 12)].set 3 (.int v))) = wS ad cI (sR w 10 v) := rfl
theorem pwS_11 (ad : Nat → Nat) (cI : ClassId × ClassId) (w : St) (v : Int32) : (wS ad cI w).set 2 (ad 2, .inr (5, [.ref (ad 3), .ref (ad 4), .ref (ad 12), .int (w.1 10), .int (w.1 11), .int (w.1 12)].set 4 (.int v))) = wS ad cI (sR w 11 v) := rfl
theorem pwS_12 (ad : Nat → Nat) (cI : ClassId × ClassId) (w : St) (v : Int32) : (wS ad cI w).set 2 (ad 2, .inr (5, [.ref (ad 3), .ref (ad 4), .ref (ad 12), .int (w.1 10), .int (w.1 11), .int (w.1 12)].set 5 (.int v))) = wS ad cI (sR w 12 v) := rfl
theorem pwS_13 (ad : Nat → Nat) (cI : ClassId × ClassId) (w : St) (v : Int32) : (wS ad cI w).set 3 (ad 3, .inr (1, [.int (w.1 13), .int (w.1 14), .ref (ad 7), .ref (ad 8), .ref (ad 9), .ref (ad 5)].set 0 (.int v))) = wS ad cI (sR w 13 v) := rfl
theorem pwS_14 (ad : Nat → Nat) (cI : ClassId × ClassId) (w : St) (v : Int32) : (wS ad cI w).set 3 (ad 3, .inr (1, [.int (w.1 13), .int (w.1 14), .ref (ad 7), .ref (ad 8), .ref (ad 9), .ref (ad 5)].set 1 (.int v))) = wS ad cI (sR w 14 v) := rfl
theorem pwS_15 (ad : Nat → Nat) (cI : ClassId × ClassId) (w : St) (v : Int32) : (wS ad cI w).set 4 (ad 4, .inr (4, [.int (w.1 15), .int (w.1 16), .int (w.1 17), .ref (ad 6), .int (w.1 18), .int (w.1 19), .int (w.1 20), .int (w.1 21), .int (w.1 22)].set 0 (.int v))) = wS ad cI (sR w 15 v) := rfl
theorem pwS_16 (ad : Nat → Nat) (cI : ClassId × ClassId) (w : St) (v : Int32) : (wS ad cI w).set 4 (ad 4, .inr (4, [.int (w.1 15), .int (w.1 16), .int (w.1 17), .ref (ad 6), .int (w.1 18), .int (w.1 19), .int (w.1 20), .int (w.1 21), .int (w.1 22)].set 1 (.int v))) = wS ad cI (sR w 16 v) := rfl
theorem pwS_17 (ad : Nat → Nat) (cI : ClassId × ClassId) (w : St) (v : Int32) : (wS ad cI w).set 4 (ad 4, .inr (4, [.int (w.1 15), .int (w.1 16), .int (w.1 17), .ref (ad 6), .int (w.1 18), .int (w.1 19), .int (w.1 20), .int (w.1 21), .int (w.1 22)].set 2 (.int v))) = wS ad cI (sR w 17 v) := rfl
theorem pwS_18 (ad : Nat → Nat) (cI : ClassId × ClassId) (w : St) (v : Int32) : (wS ad cI w).set 4 (ad 4, .inr (4, [.int (w.1 15), .int (w.1 16), .int (w.1 17), .ref (ad 6), .int (w.1 18), .int (w.1 19), .int (w.1 20), .int (w.1 21), .int (w.1 22)].set 4 (.int v))) = wS ad cI (sR w 18 v) := rfl
theorem pwS_19 (ad : Nat → Nat) (cI : ClassId × ClassId) (w : St) (v : Int32) : (wS ad cI w).set 4 (ad 4, .inr (4, [.int (w.1 15), .int (w.1 16), .int (w.1 17), .ref (ad 6), .int (w.1 18), .int (w.1 19), .int (w.1 20), .int (w.1 21), .int (w.1 22)].set 5 (.int v))) = wS ad cI (sR w 19 v) := rfl
theorem pwS_20 (ad : Nat → Nat) (cI : ClassId × ClassId) (w : St) (v : Int32) : (wS ad cI w).set 4 (ad 4, .inr (4, [.int (w.1 15), .int (w.1 16), .int (w.1 17), .ref (ad 6), .int (w.1 18), .int (w.1 19), .int (w.1 20), .int (w.1 21), .int (w.1 22)].set 6 (.int v))) = wS ad cI (sR w 20 v) := rfl
theorem pwS_21 (ad : Nat → Nat) (cI : ClassId × ClassId) (w : St) (v : Int32) : (wS ad cI w).set 4 (ad 4, .inr (4, [.int (w.1 15), .int (w.1 16), .int (w.1 17), .ref (ad 6), .int (w.1 18), .int (w.1 19), .int (w.1 20), .int (w.1 21), .int (w.1 22)].set 7 (.int v))) = wS ad cI (sR w 21 v) := rfl
theorem pwS_22 (ad : Nat → Nat) (cI : ClassId × ClassId) (w : St) (v : Int32) : (wS ad cI w).set 4 (ad 4, .inr (4, [.int (w.1 15), .int (w.1 16), .int (w.1 17), .ref (ad 6), .int (w.1 18), .int (w.1 19), .int (w.1 20), .int (w.1 21), .int (w.1 22)].set 8 (.int v))) = wS ad cI (sR w 22 v) := rfl
theorem pwS_23 (ad : Nat → Nat) (cI : ClassId × ClassId) (w : St) (v : Int32) : (wS ad cI w).set 5 (ad 5, .inr (3, [.ref (ad 10), .int (w.1 23)].set 1 (.int v))) = wS ad cI (sR w 23 v) := rfl
theorem pwS_24 (ad : Nat → Nat) (cI : ClassId × ClassId) (w : St) (v : Int32) : (wS ad cI w).set 6 (ad 6, .inr (3, [.ref (ad 11), .int (w.1 24)].set 1 (.int v))) = wS ad cI (sR w 24 v) := rfl
theorem gwS_1 (ad : Nat → Nat) (cI : ClassId × ClassId) (w : St) (g : Nat → Int32) : (wS ad cI w).set 7 (ad 7, .inl (cI.1, 72, .inl g)) = wS ad cI (sG w 1 g) := rfl
theorem awS_1 (ad : Nat → Nat) (cI : ClassId × ClassId) (w : St) (i x : Int32) : (wS ad cI w).set 7 (ad 7, .inl (cI.1, 72, .inl (upd (w.2 1) i.toNatClampNeg x))) = wS ad cI (sA w 1 i x) := rfl
theorem gwS_2 (ad : Nat → Nat) (cI : ClassId × ClassId) (w : St) (g : Nat → Int32) : (wS ad cI w).set 8 (ad 8, .inl (cI.1, 4, .inl g)) = wS ad cI (sG w 2 g) := rfl
theorem awS_2 (ad : Nat → Nat) (cI : ClassId × ClassId) (w : St) (i x : Int32) : (wS ad cI w).set 8 (ad 8, .inl (cI.1, 4, .inl (upd (w.2 2) i.toNatClampNeg x))) = wS ad cI (sA w 2 i x) := rfl
theorem gwS_3 (ad : Nat → Nat) (cI : ClassId × ClassId) (w : St) (g : Nat → Int32) : (wS ad cI w).set 9 (ad 9, .inl (cI.1, 4, .inl g)) = wS ad cI (sG w 3 g) := rfl
theorem awS_3 (ad : Nat → Nat) (cI : ClassId × ClassId) (w : St) (i x : Int32) : (wS ad cI w).set 9 (ad 9, .inl (cI.1, 4, .inl (upd (w.2 3) i.toNatClampNeg x))) = wS ad cI (sA w 3 i x) := rfl
theorem gwS_4 (ad : Nat → Nat) (cI : ClassId × ClassId) (w : St) (g : Nat → Int32) : (wS ad cI w).set 10 (ad 10, .inl (cI.1, 24, .inl g)) = wS ad cI (sG w 4 g) := rfl
theorem awS_4 (ad : Nat → Nat) (cI : ClassId × ClassId) (w : St) (i x : Int32) : (wS ad cI w).set 10 (ad 10, .inl (cI.1, 24, .inl (upd (w.2 4) i.toNatClampNeg x))) = wS ad cI (sA w 4 i x) := rfl
theorem gwS_5 (ad : Nat → Nat) (cI : ClassId × ClassId) (w : St) (g : Nat → Int32) : (wS ad cI w).set 11 (ad 11, .inl (cI.1, 24, .inl g)) = wS ad cI (sG w 5 g) := rfl
theorem awS_5 (ad : Nat → Nat) (cI : ClassId × ClassId) (w : St) (i x : Int32) : (wS ad cI w).set 11 (ad 11, .inl (cI.1, 24, .inl (upd (w.2 5) i.toNatClampNeg x))) = wS ad cI (sA w 5 i x) := rfl
theorem gwS_6 (ad : Nat → Nat) (cI : ClassId × ClassId) (w : St) (g : Nat → Int32) : (wS ad cI w).set 12 (ad 12, .inl (cI.1, 24, .inl g)) = wS ad cI (sG w 6 g) := rfl
theorem awS_6 (ad : Nat → Nat) (cI : ClassId × ClassId) (w : St) (i x : Int32) : (wS ad cI w).set 12 (ad 12, .inl (cI.1, 24, .inl (upd (w.2 6) i.toNatClampNeg x))) = wS ad cI (sA w 6 i x) := rfl
def wM (ad : Nat → Nat) (cI : ClassId × ClassId) (w : St) : va_W := [(ad 0, .inr (7, [.ref (ad 1), .ref (ad 2), .ref (ad 3), .ref (ad 4), .ref (ad 5), .int (w.1 0), .int (w.1 1), .int (w.1 2), .ref (ad 6), .int (w.1 3), .int (w.1 4), .int (w.1 5), .int (w.1 6), .int (w.1 7), .ref (ad 7)])), (ad 1, .inl (cI.1, 235, .inl (w.2 0))), (ad 2, .inl (cI.1, 940, .inl (w.2 1))), (ad 3, .inl (cI.1, 235, .inl (w.2 2))), (ad 4, .inl (cI.1, 235, .inl (w.2 3))), (ad 5, .inl (cI.1, 235, .inl (w.2 4))), (ad 6, .inl (cI.1, 60, .inl (w.2 5))), (ad 7, .inl (cI.1, 3, .inl (w.2 6)))]
theorem pwM_0 (ad : Nat → Nat) (cI : ClassId × ClassId) (w : St) (v : Int32) : (wM ad cI w).set 0 (ad 0, .inr (7, [.ref (ad 1), .ref (ad 2), .ref (ad 3), .ref (ad 4), .ref (ad 5), .int (w.1 0), .int (w.1 1), .int (w.1 2), .ref (ad 6), .int (w.1 3), .int (w.1 4), .int (w.1 5), .int (w.1 6), .int (w.1 7), .ref (ad 7)].set 5 (.int v))) = wM ad cI (sR w 0 v) := rfl
theorem pwM_1 (ad : Nat → Nat) (cI : ClassId × ClassId) (w : St) (v : Int32) : (wM ad cI w).set 0 (ad 0, .inr (7, [.ref (ad 1), .ref (ad 2), .ref (ad 3), .ref (ad 4), .ref (ad 5), .int (w.1 0), .int (w.1 1), .int (w.1 2), .ref (ad 6), .int (w.1 3), .int (w.1 4), .int (w.1 5), .int (w.1 6), .int (w.1 7), .ref (ad 7)].set 6 (.int v))) = wM ad cI (sR w 1 v) := rfl
theorem pwM_2 (ad : Nat → Nat) (cI : ClassId × ClassId) (w : St) (v : Int32) : (wM ad cI w).set 0 (ad 0, .inr (7, [.ref (ad 1), .ref (ad 2), .ref (ad 3), .ref (ad 4), .ref (ad 5), .int (w.1 0), .int (w.1 1), .int (w.1 2), .ref (ad 6), .int (w.1 3), .int (w.1 4), .int (w.1 5), .int (w.1 6), .int (w.1 7), .ref (ad 7)].set 7 (.int v))) = wM ad cI (sR w 2 v) := rfl
theorem pwM_3 (ad : Nat → Nat) (cI : ClassId × ClassId) (w : St) (v : Int32) : (wM ad cI w).set 0 (ad 0, .inr (7, [.ref (ad 1), .ref (ad 2), .ref (ad 3), .ref (ad 4), .ref (ad 5), .int (w.1 0), .int (w.1 1), .int (w.1 2), .ref (ad 6), .int (w.1 3), .int (w.1 4), .int (w.1 5), .int (w.1 6), .int (w.1 7), .ref (ad 7)].set 9 (.int v))) = wM ad cI (sR w 3 v) := rfl
theorem pwM_4 (ad : Nat → Nat) (cI : ClassId × ClassId) (w : St) (v : Int32) : (wM ad cI w).set 0 (ad 0, .inr (7, [.ref (ad 1), .ref (ad 2), .ref (ad 3), .ref (ad 4), .ref (ad 5), .int (w.1 0), .int (w.1 1), .int (w.1 2), .ref (ad 6), .int (w.1 3), .int (w.1 4), .int (w.1 5), .int (w.1 6), .int (w.1 7), .ref (ad 7)].set 10 (.int v))) = wM ad cI (sR w 4 v) := rfl
theorem pwM_5 (ad : Nat → Nat) (cI : ClassId × ClassId) (w : St) (v : Int32) : (wM ad cI w).set 0 (ad 0, .inr (7, [.ref (ad 1), .ref (ad 2), .ref (ad 3), .ref (ad 4), .ref (ad 5), .int (w.1 0), .int (w.1 1), .int (w.1 2), .ref (ad 6), .int (w.1 3), .int (w.1 4), .int (w.1 5), .int (w.1 6), .int (w.1 7), .ref (ad 7)].set 11 (.int v))) = wM ad cI (sR w 5 v) := rfl
theorem pwM_6 (ad : Nat → Nat) (cI : ClassId × ClassId) (w : St) (v : Int32) : (wM ad cI w).set 0 (ad 0, .inr (7, [.ref (ad 1), .ref (ad 2), .ref (ad 3), .ref (ad 4), .ref (ad 5), .int (w.1 0), .int (w.1 1), .int (w.1 2), .ref (ad 6), .int (w.1 3), .int (w.1 4), .int (w.1 5), .int (w.1 6), .int (w.1 7), .ref (ad 7)].set 12 (.int v))) = wM ad cI (sR w 6 v) := rfl
theorem pwM_7 (ad : Nat → Nat) (cI : ClassId × ClassId) (w : St) (v : Int32) : (wM ad cI w).set 0 (ad 0, .inr (7, [.ref (ad 1), .ref (ad 2), .ref (ad 3), .ref (ad 4), .ref (ad 5), .int (w.1 0), .int (w.1 1), .int (w.1 2), .ref (ad 6), .int (w.1 3), .int (w.1 4), .int (w.1 5), .int (w.1 6), .int (w.1 7), .ref (ad 7)].set 13 (.int v))) = wM ad cI (sR w 7 v) := rfl
theorem gwM_0 (ad : Nat → Nat) (cI : ClassId × ClassId) (w : St) (g : Nat → Int32) : (wM ad cI w).set 1 (ad 1, .inl (cI.1, 235, .inl g)) = wM ad cI (sG w 0 g) := rfl
theorem awM_0 (ad : Nat → Nat) (cI : ClassId × ClassId) (w : St) (i x : Int32) : (wM ad cI w).set 1 (ad 1, .inl (cI.1, 235, .inl (upd (w.2 0) i.toNatClampNeg x))) = wM ad cI (sA w 0 i x) := rfl
theorem gwM_1 (ad : Nat → Nat) (cI : ClassId × ClassId) (w : St) (g : Nat → Int32) : (wM ad cI w).set 2 (ad 2, .inl (cI.1, 940, .inl g)) = wM ad cI (sG w 1 g) := rfl
theorem awM_1 (ad : Nat → Nat) (cI : ClassId × ClassId) (w : St) (i x : Int32) : (wM ad cI w).set 2 (ad 2, .inl (cI.1, 940, .inl (upd (w.2 1) i.toNatClampNeg x))) = wM ad cI (sA w 1 i x) := rfl
theorem gwM_2 (ad : Nat → Nat) (cI : ClassId × ClassId) (w : St) (g : Nat → Int32) : (wM ad cI w).set 3 (ad 3, .inl (cI.1, 235, .inl g)) = wM ad cI (sG w 2 g) := rfl
theorem awM_2 (ad : Nat → Nat) (cI : ClassId × ClassId) (w : St) (i x : Int32) : (wM ad cI w).set 3 (ad 3, .inl (cI.1, 235, .inl (upd (w.2 2) i.toNatClampNeg x))) = wM ad cI (sA w 2 i x) := rfl
theorem gwM_3 (ad : Nat → Nat) (cI : ClassId × ClassId) (w : St) (g : Nat → Int32) : (wM ad cI w).set 4 (ad 4, .inl (cI.1, 235, .inl g)) = wM ad cI (sG w 3 g) := rfl
theorem awM_3 (ad : Nat → Nat) (cI : ClassId × ClassId) (w : St) (i x : Int32) : (wM ad cI w).set 4 (ad 4, .inl (cI.1, 235, .inl (upd (w.2 3) i.toNatClampNeg x))) = wM ad cI (sA w 3 i x) := rfl
theorem gwM_4 (ad : Nat → Nat) (cI : ClassId × ClassId) (w : St) (g : Nat → Int32) : (wM ad cI w).set 5 (ad 5, .inl (cI.1, 235, .inl g)) = wM ad cI (sG w 4 g) := rfl
theorem awM_4 (ad : Nat → Nat) (cI : ClassId × ClassId) (w : St) (i x : Int32) : (wM ad cI w).set 5 (ad 5, .inl (cI.1, 235, .inl (upd (w.2 4) i.toNatClampNeg x))) = wM ad cI (sA w 4 i x) := rfl
theorem gwM_5 (ad : Nat → Nat) (cI : ClassId × ClassId) (w : St) (g : Nat → Int32) : (wM ad cI w).set 6 (ad 6, .inl (cI.1, 60, .inl g)) = wM ad cI (sG w 5 g) := rfl
theorem awM_5 (ad : Nat → Nat) (cI : ClassId × ClassId) (w : St) (i x : Int32) : (wM ad cI w).set 6 (ad 6, .inl (cI.1, 60, .inl (upd (w.2 5) i.toNatClampNeg x))) = wM ad cI (sA w 5 i x) := rfl
theorem gwM_6 (ad : Nat → Nat) (cI : ClassId × ClassId) (w : St) (g : Nat → Int32) : (wM ad cI w).set 7 (ad 7, .inl (cI.1, 3, .inl g)) = wM ad cI (sG w 6 g) := rfl
theorem awM_6 (ad : Nat → Nat) (cI : ClassId × ClassId) (w : St) (i x : Int32) : (wM ad cI w).set 7 (ad 7, .inl (cI.1, 3, .inl (upd (w.2 6) i.toNatClampNeg x))) = wM ad cI (sA w 6 i x) := rfl
def wC (ad : Nat → Nat) (cI : ClassId × ClassId) (w : St) : va_W := [(ad 0, .inr (5, [.ref (ad 1), .ref (ad 2), .ref (ad 10), .int (w.1 10), .int (w.1 11), .int (w.1 12)])), (ad 1, .inr (1, [.int (w.1 13), .int (w.1 14), .ref (ad 5), .ref (ad 6), .ref (ad 7), .ref (ad 3)])), (ad 2, .inr (4, [.int (w.1 15), .int (w.1 16), .int (w.1 17), .ref (ad 4), .int (w.1 18), .int (w.1 19), .int (w.1 20), .int (w.1 21), .int (w.1 22)])), (ad 3, .inr (3, [.ref (ad 8), .int (w.1 23)])), (ad 4, .inr (3, [.ref (ad 9), .int (w.1 24)])), (ad 5, .inl (cI.1, 72, .inl (w.2 1))), (ad 6, .inl (cI.1, 4, .inl (w.2 2))), (ad 7, .inl (cI.1, 4, .inl (w.2 3))), (ad 8, .inl (cI.1, 24, .inl (w.2 4))), (ad 9, .inl (cI.1, 24, .inl (w.2 5))), (ad 10, .inl (cI.1, 24, .inl (w.2 6))), (ad 11, .inr (5, [.ref (ad 12), .ref (ad 13), .ref (ad 21), .int (w.1 110), .int (w.1 111), .int (w.1 112)])), (ad 12, .inr (1, [.int (w.1 113), .int (w.1 114), .ref (ad 16), .ref (ad 17), .ref (ad 18), .ref (ad 14)])), (ad 13, .inr (4, [.int (w.1 115), .int (w.1 116), .int (w.1 117), .ref (ad 15), .int (w.1 118), .int (w.1 119), .int (w.1 120), .int (w.1 121), .int (w.1 122)])), (ad 14, .inr (3, [.ref (ad 19), .int (w.1 123)])), (ad 15, .inr (3, [.ref (ad 20), .int (w.1 124)])), (ad 16, .inl (cI.1, 72, .inl (w.2 101))), (ad 17, .inl (cI.1, 4, .inl (w.2 102))), (ad 18, .inl (cI.1, 4, .inl (w.2 103))), (ad 19, .inl (cI.1, 24, .inl (w.2 104))), (ad 20, .inl (cI.1, 24, .inl (w.2 105))), (ad 21, .inl (cI.1, 24, .inl (w.2 106)))]
theorem pwC_10 (ad : Nat → Nat) (cI : ClassId × ClassId) (w : St) (v : Int32) : (wC ad cI w).set 0 (ad 0, .inr (5, [.ref (ad 1), .ref (ad 2), .ref (ad 10), .int (w.1 10), .int (w.1 11), .int (w.1 12)].set 3 (.int v))) = wC ad cI (sR w 10 v) := rfl
theorem pwC_11 (ad : Nat → Nat) (cI : ClassId × ClassId) (w : St) (v : Int32) : (wC ad cI w).set 0 (ad 0, .inr (5, [.ref (ad 1), .ref (ad 2), .ref (ad 10), .int (w.1 10), .int (w.1 11), .int (w.1 12)].set 4 (.int v))) = wC ad cI (sR w 11 v) := rfl
theorem pwC_12 (ad : Nat → Nat) (cI : ClassId × ClassId) (w : St) (v : Int32) : (wC ad cI w).set 0 (ad 0, .inr (5, [.ref (ad 1), .ref (ad 2), .ref (ad 10), .int (w.1 10), .int (w.1 11), .int (w.1 12)].set 5 (.int v))) = wC ad cI (sR w 12 v) := rfl
theorem pwC_13 (ad : Nat → Nat) (cI : ClassId × ClassId) (w : St) (v : Int32) : (wC ad cI w).set 1 (ad 1, .inr (1, [.int (w.1 13), .int (w.1 14), .ref (ad 5), .ref (ad 6), .ref (ad 7), .ref (ad 3)].set 0 (.int v))) = wC ad cI (sR w 13 v) := rfl
theorem pwC_14 (ad : Nat → Nat) (cI : ClassId × ClassId) (w : St) (v : Int32) : (wC ad cI w).set 1 (ad 1, .inr (1, [.int (w.1 13), .int (w.1 14), .ref (ad 5), .ref (ad 6), .ref (ad 7), .ref (ad 3)].set 1 (.int v))) = wC ad cI (sR w 14 v) := rfl
theorem pwC_15 (ad : Nat → Nat) (cI : ClassId × ClassId) (w : St) (v : Int32) : (wC ad cI w).set 2 (ad 2, .inr (4, [.int (w.1 15), .int (w.1 16), .int (w.1 17), .ref (ad 4), .int (w.1 18), .int (w.1 19), .int (w.1 20), .int (w.1 21), .int (w.1 22)].set 0 (.int v))) = wC ad cI (sR w 15 v) := rfl
theorem pwC_16 (ad : Nat → Nat) (cI : ClassId × ClassId) (w : St) (v : Int32) : (wC ad cI w).set 2 (ad 2, .inr (4, [.int (w.1 15), .int (w.1 16), .int (w.1 17), .ref (ad 4), .int (w.1 18), .int (w.1 19), .int (w.1 20), .int (w.1 21), .int (w.1 22)].set 1 (.int v))) = wC ad cI (sR w 16 v) := rfl
theorem pwC_17 (ad : Nat → Nat) (cI : ClassId × ClassId) (w : St) (v : Int32) : (wC ad cI w).set 2 (ad 2, .inr (4, [.int (w.1 15), .int (w.1 16), .int (w.1 17), .ref (ad 4), .int (w.1 18), .int (w.1 19), .int (w.1 20), .int (w.1 21), .int (w.1 22)].set 2 (.int v))) = wC ad cI (sR w 17 v) := rfl
theorem pwC_18 (ad : Nat → Nat) (cI : ClassId × ClassId) (w : St) (v : Int32) : (wC ad cI w).set 2 (ad 2, .inr (4, [.int (w.1 15), .int (w.1 16), .int (w.1 17), .ref (ad 4), .int (w.1 18), .int (w.1 19), .int (w.1 20), .int (w.1 21), .int (w.1 22)].set 4 (.int v))) = wC ad cI (sR w 18 v) := rfl
theorem pwC_19 (ad : Nat → Nat) (cI : ClassId × ClassId) (w : St) (v : Int32) : (wC ad cI w).set 2 (ad 2, .inr (4, [.int (w.1 15), .int (w.1 16), .int (w.1 17), .ref (ad 4), .int (w.1 18), .int (w.1 19), .int (w.1 20), .int (w.1 21), .int (w.1 22)].set 5 (.int v))) = wC ad cI (sR w 19 v) := rfl
theorem pwC_20 (ad : Nat → Nat) (cI : ClassId × ClassId) (w : St) (v : Int32) : (wC ad cI w).set 2 (ad 2, .inr (4, [.int (w.1 15), .int (w.1 16), .int (w.1 17), .ref (ad 4), .int (w.1 18), .int (w.1 19), .int (w.1 20), .int (w.1 21), .int (w.1 22)].set 6 (.int v))) = wC ad cI (sR w 20 v) := rfl
theorem pwC_21 (ad : Nat → Nat) (cI : ClassId × ClassId) (w : St) (v : Int32) : (wC ad cI w).set 2 (ad 2, .inr (4, [.int (w.1 15), .int (w.1 16), .int (w.1 17), .ref (ad 4), .int (w.1 18), .int (w.1 19), .int (w.1 20), .int (w.1 21), .int (w.1 22)].set 7 (.int v))) = wC ad cI (sR w 21 v) := rfl
theorem pwC_22 (ad : Nat → Nat) (cI : ClassId × ClassId) (w : St) (v : Int32) : (wC ad cI w).set 2 (ad 2, .inr (4, [.int (w.1 15), .int (w.1 16), .int (w.1 17), .ref (ad 4), .int (w.1 18), .int (w.1 19), .int (w.1 20), .int (w.1 21), .int (w.1 22)].set 8 (.int v))) = wC ad cI (sR w 22 v) := rfl
theorem pwC_23 (ad : Nat → Nat) (cI : ClassId × ClassId) (w : St) (v : Int32) : (wC ad cI w).set 3 (ad 3, .inr (3, [.ref (ad 8), .int (w.1 23)].set 1 (.int v))) = wC ad cI (sR w 23 v) := rfl
theorem pwC_24 (ad : Nat → Nat) (cI : ClassId × ClassId) (w : St) (v : Int32) : (wC ad cI w).set 4 (ad 4, .inr (3, [.ref (ad 9), .int (w.1 24)].set 1 (.int v))) = wC ad cI (sR w 24 v) := rfl
theorem gwC_1 (ad : Nat → Nat) (cI : ClassId × ClassId) (w : St) (g : Nat → Int32) : (wC ad cI w).set 5 (ad 5, .inl (cI.1, 72, .inl g)) = wC ad cI (sG w 1 g) := rfl
theorem awC_1 (ad : Nat → Nat) (cI : ClassId × ClassId) (w : St) (i x : Int32) : (wC ad cI w).set 5 (ad 5, .inl (cI.1, 72, .inl (upd (w.2 1) i.toNatClampNeg x))) = wC ad cI (sA w 1 i x) := rfl
theorem gwC_2 (ad : Nat → Nat) (cI : ClassId × ClassId) (w : St) (g : Nat → Int32) : (wC ad cI w).set 6 (ad 6, .inl (cI.1, 4, .inl g)) = wC ad cI (sG w 2 g) := rfl
theorem awC_2 (ad : Nat → Nat) (cI : ClassId × ClassId) (w : St) (i x : Int32) : (wC ad cI w).set 6 (ad 6, .inl (cI.1, 4, .inl (upd (w.2 2) i.toNatClampNeg x))) = wC ad cI (sA w 2 i x) := rfl
theorem gwC_3 (ad : Nat → Nat) (cI : ClassId × ClassId) (w : St) (g : Nat → Int32) : (wC ad cI w).set 7 (ad 7, .inl (cI.1, 4, .inl g)) = wC ad cI (sG w 3 g) := rfl
theorem awC_3 (ad : Nat → Nat) (cI : ClassId × ClassId) (w : St) (i x : Int32) : (wC ad cI w).set 7 (ad 7, .inl (cI.1, 4, .inl (upd (w.2 3) i.toNatClampNeg x))) = wC ad cI (sA w 3 i x) := rfl
theorem gwC_4 (ad : Nat → Nat) (cI : ClassId × ClassId) (w : St) (g : Nat → Int32) : (wC ad cI w).set 8 (ad 8, .inl (cI.1, 24, .inl g)) = wC ad cI (sG w 4 g) := rfl
theorem awC_4 (ad : Nat → Nat) (cI : ClassId × ClassId) (w : St) (i x : Int32) : (wC ad cI w).set 8 (ad 8, .inl (cI.1, 24, .inl (upd (w.2 4) i.toNatClampNeg x))) = wC ad cI (sA w 4 i x) := rfl
theorem gwC_5 (ad : Nat → Nat) (cI : ClassId × ClassId) (w : St) (g : Nat → Int32) : (wC ad cI w).set 9 (ad 9, .inl (cI.1, 24, .inl g)) = wC ad cI (sG w 5 g) := rfl
theorem awC_5 (ad : Nat → Nat) (cI : ClassId × ClassId) (w : St) (i x : Int32) : (wC ad cI w).set 9 (ad 9, .inl (cI.1, 24, .inl (upd (w.2 5) i.toNatClampNeg x))) = wC ad cI (sA w 5 i x) := rfl
theorem gwC_6 (ad : Nat → Nat) (cI : ClassId × ClassId) (w : St) (g : Nat → Int32) : (wC ad cI w).set 10 (ad 10, .inl (cI.1, 24, .inl g)) = wC ad cI (sG w 6 g) := rfl
theorem awC_6 (ad : Nat → Nat) (cI : ClassId × ClassId) (w : St) (i x : Int32) : (wC ad cI w).set 10 (ad 10, .inl (cI.1, 24, .inl (upd (w.2 6) i.toNatClampNeg x))) = wC ad cI (sA w 6 i x) := rfl
theorem pwC_110 (ad : Nat → Nat) (cI : ClassId × ClassId) (w : St) (v : Int32) : (wC ad cI w).set 11 (ad 11, .inr (5, [.ref (ad 12), .ref (ad 13), .ref (ad 21), .int (w.1 110), .int (w.1 111), .int (w.1 112)].set 3 (.int v))) = wC ad cI (sR w 110 v) := rfl
theorem pwC_111 (ad : Nat → Nat) (cI : ClassId × ClassId) (w : St) (v : Int32) : (wC ad cI w).set 11 (ad 11, .inr (5, [.ref (ad 12), .ref (ad 13), .ref (ad 21), .int (w.1 110), .int (w.1 111), .int (w.1 112)].set 4 (.int v))) = wC ad cI (sR w 111 v) := rfl
theorem pwC_112 (ad : Nat → Nat) (cI : ClassId × ClassId) (w : St) (v : Int32) : (wC ad cI w).set 11 (ad 11, .inr (5, [.ref (ad 12), .ref (ad 13), .ref (ad 21), .int (w.1 110), .int (w.1 111), .int (w.1 112)].set 5 (.int v))) = wC ad cI (sR w 112 v) := rfl
theorem pwC_113 (ad : Nat → Nat) (cI : ClassId × ClassId) (w : St) (v : Int32) : (wC ad cI w).set 12 (ad 12, .inr (1, [.int (w.1 113), .int (w.1 114), .ref (ad 16), .ref (ad 17), .ref (ad 18), .ref (ad 14)].set 0 (.int v))) = wC ad cI (sR w 113 v) := rfl
theorem pwC_114 (ad : Nat → Nat) (cI : ClassId × ClassId) (w : St) (v : Int32) : (wC ad cI w).set 12 (ad 12, .inr (1, [.int (w.1 113), .int (w.1 114), .ref (ad 16), .ref (ad 17), .ref (ad 18), .ref (ad 14)].set 1 (.int v))) = wC ad cI (sR w 114 v) := rfl
theorem pwC_115 (ad : Nat → Nat) (cI : ClassId × ClassId) (w : St) (v : Int32) : (wC ad cI w).set 13 (ad 13, .inr (4, [.int (w.1 115), .int (w.1 116), .int (w.1 117), .ref (ad 15), .int (w.1 118), .int (w.1 119), .int (w.1 120), .int (w.1 121), .int (w.1 122)].set 0 (.int v))) = wC ad cI (sR w 115 v) := rfl
theorem pwC_116 (ad : Nat → Nat) (cI : ClassId × ClassId) (w : St) (v : Int32) : (wC ad cI w).set 13 (ad 13, .inr (4, [.int (w.1 115), .int (w.1 116), .int (w.1 117), .ref (ad 15), .int (w.1 118), .int (w.1 119), .int (w.1 120), .int (w.1 121), .int (w.1 122)].set 1 (.int v))) = wC ad cI (sR w 116 v) := rfl
theorem pwC_117 (ad : Nat → Nat) (cI : ClassId × ClassId) (w : St) (v : Int32) : (wC ad cI w).set 13 (ad 13, .inr (4, [.int (w.1 115), .int (w.1 116), .int (w.1 117), .ref (ad 15), .int (w.1 118), .int (w.1 119), .int (w.1 120), .int (w.1 121), .int (w.1 122)].set 2 (.int v))) = wC ad cI (sR w 117 v) := rfl
theorem pwC_118 (ad : Nat → Nat) (cI : ClassId × ClassId) (w : St) (v : Int32) : (wC ad cI w).set 13 (ad 13, .inr (4, [.int (w.1 115), .int (w.1 116), .int (w.1 117), .ref (ad 15), .int (w.1 118), .int (w.1 119), .int (w.1 120), .int (w.1 121), .int (w.1 122)].set 4 (.int v))) = wC ad cI (sR w 118 v) := rfl
theorem pwC_119 (ad : Nat → Nat) (cI : ClassId × ClassId) (w : St) (v : Int32) : (wC ad cI w).set 13 (ad 13, .inr (4, [.int (w.1 115), .int (w.1 116), .int (w.1 117), .ref (ad 15), .int (w.1 118), .int (w.1 119), .int (w.1 120), .int (w.1 121), .int (w.1 122)].set 5 (.int v))) = wC ad cI (sR w 119 v) := rfl
theorem pwC_120 (ad : Nat → Nat) (cI : ClassId × ClassId) (w : St) (v : Int32) : (wC ad cI w).set 13 (ad 13, .inr (4, [.int (w.1 115), .int (w.1 116), .int (w.1 117), .ref (ad 15), .int (w.1 118), .int (w.1 119), .int (w.1 120), .int (w.1 121), .int (w.1 122)].set 6 (.int v))) = wC ad cI (sR w 120 v) := rfl
theorem pwC_121 (ad : Nat → Nat) (cI : ClassId × ClassId) (w : St) (v : Int32) : (wC ad cI w).set 13 (ad 13, .inr (4, [.int (w.1 115), .int (w.1 116), .int (w.1 117), .ref (ad 15), .int (w.1 118), .int (w.1 119), .int (w.1 120), .int (w.1 121), .int (w.1 122)].set 7 (.int v))) = wC ad cI (sR w 121 v) := rfl
theorem pwC_122 (ad : Nat → Nat) (cI : ClassId × ClassId) (w : St) (v : Int32) : (wC ad cI w).set 13 (ad 13, .inr (4, [.int (w.1 115), .int (w.1 116), .int (w.1 117), .ref (ad 15), .int (w.1 118), .int (w.1 119), .int (w.1 120), .int (w.1 121), .int (w.1 122)].set 8 (.int v))) = wC ad cI (sR w 122 v) := rfl
theorem pwC_123 (ad : Nat → Nat) (cI : ClassId × ClassId) (w : St) (v : Int32) : (wC ad cI w).set 14 (ad 14, .inr (3, [.ref (ad 19), .int (w.1 123)].set 1 (.int v))) = wC ad cI (sR w 123 v) := rfl
theorem pwC_124 (ad : Nat → Nat) (cI : ClassId × ClassId) (w : St) (v : Int32) : (wC ad cI w).set 15 (ad 15, .inr (3, [.ref (ad 20), .int (w.1 124)].set 1 (.int v))) = wC ad cI (sR w 124 v) := rfl
theorem gwC_101 (ad : Nat → Nat) (cI : ClassId × ClassId) (w : St) (g : Nat → Int32) : (wC ad cI w).set 16 (ad 16, .inl (cI.1, 72, .inl g)) = wC ad cI (sG w 101 g) := rfl
theorem awC_101 (ad : Nat → Nat) (cI : ClassId × ClassId) (w : St) (i x : Int32) : (wC ad cI w).set 16 (ad 16, .inl (cI.1, 72, .inl (upd (w.2 101) i.toNatClampNeg x))) = wC ad cI (sA w 101 i x) := rfl
theorem gwC_102 (ad : Nat → Nat) (cI : ClassId × ClassId) (w : St) (g : Nat → Int32) : (wC ad cI w).set 17 (ad 17, .inl (cI.1, 4, .inl g)) = wC ad cI (sG w 102 g) := rfl
theorem awC_102 (ad : Nat → Nat) (cI : ClassId × ClassId) (w : St) (i x : Int32) : (wC ad cI w).set 17 (ad 17, .inl (cI.1, 4, .inl (upd (w.2 102) i.toNatClampNeg x))) = wC ad cI (sA w 102 i x) := rfl
theorem gwC_103 (ad : Nat → Nat) (cI : ClassId × ClassId) (w : St) (g : Nat → Int32) : (wC ad cI w).set 18 (ad 18, .inl (cI.1, 4, .inl g)) = wC ad cI (sG w 103 g) := rfl
theorem awC_103 (ad : Nat → Nat) (cI : ClassId × ClassId) (w : St) (i x : Int32) : (wC ad cI w).set 18 (ad 18, .inl (cI.1, 4, .inl (upd (w.2 103) i.toNatClampNeg x))) = wC ad cI (sA w 103 i x) := rfl
theorem gwC_104 (ad : Nat → Nat) (cI : ClassId × ClassId) (w : St) (g : Nat → Int32) : (wC ad cI w).set 19 (ad 19, .inl (cI.1, 24, .inl g)) = wC ad cI (sG w 104 g) := rfl
theorem awC_104 (ad : Nat → Nat) (cI : ClassId × ClassId) (w : St) (i x : Int32) : (wC ad cI w).set 19 (ad 19, .inl (cI.1, 24, .inl (upd (w.2 104) i.toNatClampNeg x))) = wC ad cI (sA w 104 i x) := rfl
theorem gwC_105 (ad : Nat → Nat) (cI : ClassId × ClassId) (w : St) (g : Nat → Int32) : (wC ad cI w).set 20 (ad 20, .inl (cI.1, 24, .inl g)) = wC ad cI (sG w 105 g) := rfl
theorem awC_105 (ad : Nat → Nat) (cI : ClassId × ClassId) (w : St) (i x : Int32) : (wC ad cI w).set 20 (ad 20, .inl (cI.1, 24, .inl (upd (w.2 105) i.toNatClampNeg x))) = wC ad cI (sA w 105 i x) := rfl
theorem gwC_106 (ad : Nat → Nat) (cI : ClassId × ClassId) (w : St) (g : Nat → Int32) : (wC ad cI w).set 21 (ad 21, .inl (cI.1, 24, .inl g)) = wC ad cI (sG w 106 g) := rfl
theorem awC_106 (ad : Nat → Nat) (cI : ClassId × ClassId) (w : St) (i x : Int32) : (wC ad cI w).set 21 (ad 21, .inl (cI.1, 24, .inl (upd (w.2 106) i.toNatClampNeg x))) = wC ad cI (sA w 106 i x) := rfl
end
section
theorem dX6_bit_0 : decode cX6_bit 0 = .ok (.iload_n 0, 1) := by decide +kernel
theorem dX6_bit_1 : decode cX6_bit 1 = .ok (.ifCond .lt 15, 3) := by decide +kernel
theorem dX6_bit_4 : decode cX6_bit 4 = .ok (.iload_n 0, 1) := by decide +kernel
theorem dX6_bit_5 : decode cX6_bit 5 = .ok (.bipush 24, 2) := by decide +kernel
theorem dX6_bit_7 : decode cX6_bit 7 = .ok (.if_icmp .ge 9, 3) := by decide +kernel
theorem dX6_bit_10 : decode cX6_bit 10 = .ok (.iconst 1, 1) := by decide +kernel
theorem dX6_bit_11 : decode cX6_bit 11 = .ok (.iload_n 0, 1) := by decide +kernel
theorem dX6_bit_12 : decode cX6_bit 12 = .ok (.ishl, 1) := by decide +kernel
theorem dX6_bit_13 : decode cX6_bit 13 = .ok (.goto 4, 3) := by decide +kernel
theorem dX6_bit_16 : decode cX6_bit 16 = .ok (.iconst 0, 1) := by decide +kernel
theorem dX6_bit_17 : decode cX6_bit 17 = .ok (.ireturn, 1) := by decide +kernel
theorem dX6_isIn_0 : decode cX6_isIn 0 = .ok (.iload_n 0, 1) := by decide +kernel
theorem dX6_isIn_1 : decode cX6_isIn 1 = .ok (.ifCond .lt 12, 3) := by decide +kernel
theorem dX6_isIn_4 : decode cX6_isIn 4 = .ok (.iload_n 0, 1) := by decide +kernel
theorem dX6_isIn_5 : decode cX6_isIn 5 = .ok (.iload_n 1, 1) := by decide +kernel
theorem dX6_isIn_6 : decode cX6_isIn 6 = .ok (.if_icmp .ge 7, 3) := by decide +kernel
theorem dX6_isIn_9 : decode cX6_isIn 9 = .ok (.iconst 1, 1) := by decide +kernel
theorem dX6_isIn_10 : decode cX6_isIn 10 = .ok (.goto 4, 3) := by decide +kernel
theorem dX6_isIn_13 : decode cX6_isIn 13 = .ok (.iconst 0, 1) := by decide +kernel
theorem dX6_isIn_14 : decode cX6_isIn 14 = .ok (.ireturn, 1) := by decide +kernel
theorem dX6_isError_0 : decode cX6_isError 0 = .ok (.iload_n 0, 1) := by decide +kernel
theorem dX6_isError_1 : decode cX6_isError 1 = .ok (.bipush (-11), 2) := by decide +kernel
theorem dX6_isError_3 : decode cX6_isError 3 = .ok (.if_icmp .gt 7, 3) := by decide +kernel
theorem dX6_isError_6 : decode cX6_isError 6 = .ok (.iconst 1, 1) := by decide +kernel
theorem dX6_isError_7 : decode cX6_isError 7 = .ok (.goto 4, 3) := by decide +kernel
theorem dX6_isError_10 : decode cX6_isError 10 = .ok (.iconst 0, 1) := by decide +kernel
theorem dX6_isError_11 : decode cX6_isError 11 = .ok (.ireturn, 1) := by decide +kernel
theorem dX6_lowestOf_0 : decode cX6_lowestOf 0 = .ok (.iload_n 1, 1) := by decide +kernel
theorem dX6_lowestOf_1 : decode cX6_lowestOf 1 = .ok (.iconst 0, 1) := by decide +kernel
theorem dX6_lowestOf_2 : decode cX6_lowestOf 2 = .ok (.invokestatic 181, 3) := by decide +kernel
theorem dX6_lowestOf_5 : decode cX6_lowestOf 5 = .ok (.istore_n 2, 1) := by decide +kernel
theorem dX6_lowestOf_6 : decode cX6_lowestOf 6 = .ok (.iload_n 2, 1) := by decide +kernel
theorem dX6_lowestOf_7 : decode cX6_lowestOf 7 = .ok (.bipush 24, 2) := by decide +kernel
theorem dX6_lowestOf_9 : decode cX6_lowestOf 9 = .ok (.if_icmp .ge 20, 3) := by decide +kernel
theorem dX6_lowestOf_12 : decode cX6_lowestOf 12 = .ok (.iload_n 0, 1) := by decide +kernel
theorem dX6_lowestOf_13 : decode cX6_lowestOf 13 = .ok (.iload_n 2, 1) := by decide +kernel
theorem dX6_lowestOf_14 : decode cX6_lowestOf 14 = .ok (.invokestatic 134, 3) := by decide +kernel
theorem dX6_lowestOf_17 : decode cX6_lowestOf 17 = .ok (.iand, 1) := by decide +kernel
theorem dX6_lowestOf_18 : decode cX6_lowestOf 18 = .ok (.ifCond .eq 5, 3) := by decide +kernel
theorem dX6_lowestOf_21 : decode cX6_lowestOf 21 = .ok (.iload_n 2, 1) := by decide +kernel
theorem dX6_lowestOf_22 : decode cX6_lowestOf 22 = .ok (.ireturn, 1) := by decide +kernel
theorem dX6_lowestOf_23 : decode cX6_lowestOf 23 = .ok (.iinc 2 1, 3) := by decide +kernel
theorem dX6_lowestOf_26 : decode cX6_lowestOf 26 = .ok (.goto (-20), 3) := by decide +kernel
theorem dX6_lowestOf_29 : decode cX6_lowestOf 29 = .ok (.iconst (-1), 1) := by decide +kernel
theorem dX6_lowestOf_30 : decode cX6_lowestOf 30 = .ok (.ireturn, 1) := by decide +kernel
theorem dX0_isDigit_0 : decode cX0_isDigit 0 = .ok (.iload_n 0, 1) := by decide +kernel
theorem dX0_isDigit_1 : decode cX0_isDigit 1 = .ok (.bipush 48, 2) := by decide +kernel
theorem dX0_isDigit_3 : decode cX0_isDigit 3 = .ok (.if_icmp .lt 13, 3) := by decide +kernel
theorem dX0_isDigit_6 : decode cX0_isDigit 6 = .ok (.iload_n 0, 1) := by decide +kernel
theorem dX0_isDigit_7 : decode cX0_isDigit 7 = .ok (.bipush 57, 2) := by decide +kernel
theorem dX0_isDigit_9 : decode cX0_isDigit 9 = .ok (.if_icmp .gt 7, 3) := by decide +kernel
theorem dX0_isDigit_12 : decode cX0_isDigit 12 = .ok (.iconst 1, 1) := by decide +kernel
theorem dX0_isDigit_13 : decode cX0_isDigit 13 = .ok (.goto 4, 3) := by decide +kernel
theorem dX0_isDigit_16 : decode cX0_isDigit 16 = .ok (.iconst 0, 1) := by decide +kernel
theorem dX0_isDigit_17 : decode cX0_isDigit 17 = .ok (.ireturn, 1) := by decide +kernel
theorem dJ6_bitCount_0f7a4_0 : decode cJ6_bitCount_0f7a4 0 = .ok (.iload_n 0, 1) := by decide +kernel
theorem dJ6_bitCount_0f7a4_1 : decode cJ6_bitCount_0f7a4 1 = .ok (.iload_n 0, 1) := by decide +kernel
theorem dJ6_bitCount_0f7a4_2 : decode cJ6_bitCount_0f7a4 2 = .ok (.iconst 1, 1) := by decide +kernel
theorem dJ6_bitCount_0f7a4_3 : decode cJ6_bitCount_0f7a4 3 = .ok (.iushr, 1) := by decide +kernel
theorem dJ6_bitCount_0f7a4_4 : decode cJ6_bitCount_0f7a4 4 = .ok (.ldc_w 265, 3) := by decide +kernel
theorem dJ6_bitCount_0f7a4_7 : decode cJ6_bitCount_0f7a4 7 = .ok (.iand, 1) := by decide +kernel
theorem dJ6_bitCount_0f7a4_8 : decode cJ6_bitCount_0f7a4 8 = .ok (.isub, 1) := by decide +kernel
theorem dJ6_bitCount_0f7a4_9 : decode cJ6_bitCount_0f7a4 9 = .ok (.istore_n 0, 1) := by decide +kernel
theorem dJ6_bitCount_0f7a4_10 : decode cJ6_bitCount_0f7a4 10 = .ok (.iload_n 0, 1) := by decide +kernel
theorem dJ6_bitCount_0f7a4_11 : decode cJ6_bitCount_0f7a4 11 = .ok (.ldc_w 266, 3) := by decide +kernel
theorem dJ6_bitCount_0f7a4_14 : decode cJ6_bitCount_0f7a4 14 = .ok (.iand, 1) := by decide +kernel
theorem dJ6_bitCount_0f7a4_15 : decode cJ6_bitCount_0f7a4 15 = .ok (.iload_n 0, 1) := by decide +kernel
theorem dJ6_bitCount_0f7a4_16 : decode cJ6_bitCount_0f7a4 16 = .ok (.iconst 2, 1) := by decide +kernel
theorem dJ6_bitCount_0f7a4_17 : decode cJ6_bitCount_0f7a4 17 = .ok (.iushr, 1) := by decide +kernel
theorem dJ6_bitCount_0f7a4_18 : decode cJ6_bitCount_0f7a4 18 = .ok (.ldc_w 266, 3) := by decide +kernel
theorem dJ6_bitCount_0f7a4_21 : decode cJ6_bitCount_0f7a4 21 = .ok (.iand, 1) := by decide +kernel
theorem dJ6_bitCount_0f7a4_22 : decode cJ6_bitCount_0f7a4 22 = .ok (.iadd, 1) := by decide +kernel
theorem dJ6_bitCount_0f7a4_23 : decode cJ6_bitCount_0f7a4 23 = .ok (.istore_n 0, 1) := by decide +kernel
theorem dJ6_bitCount_0f7a4_24 : decode cJ6_bitCount_0f7a4 24 = .ok (.iload_n 0, 1) := by decide +kernel
theorem dJ6_bitCount_0f7a4_25 : decode cJ6_bitCount_0f7a4 25 = .ok (.iload_n 0, 1) := by decide +kernel
theorem dJ6_bitCount_0f7a4_26 : decode cJ6_bitCount_0f7a4 26 = .ok (.iconst 4, 1) := by decide +kernel
theorem dJ6_bitCount_0f7a4_27 : decode cJ6_bitCount_0f7a4 27 = .ok (.iushr, 1) := by decide +kernel
theorem dJ6_bitCount_0f7a4_28 : decode cJ6_bitCount_0f7a4 28 = .ok (.iadd, 1) := by decide +kernel
theorem dJ6_bitCount_0f7a4_29 : decode cJ6_bitCount_0f7a4 29 = .ok (.ldc_w 267, 3) := by decide +kernel
theorem dJ6_bitCount_0f7a4_32 : decode cJ6_bitCount_0f7a4 32 = .ok (.iand, 1) := by decide +kernel
theorem dJ6_bitCount_0f7a4_33 : decode cJ6_bitCount_0f7a4 33 = .ok (.istore_n 0, 1) := by decide +kernel
theorem dJ6_bitCount_0f7a4_34 : decode cJ6_bitCount_0f7a4 34 = .ok (.iload_n 0, 1) := by decide +kernel
theorem dJ6_bitCount_0f7a4_35 : decode cJ6_bitCount_0f7a4 35 = .ok (.iload_n 0, 1) := by decide +kernel
theorem dJ6_bitCount_0f7a4_36 : decode cJ6_bitCount_0f7a4 36 = .ok (.bipush 8, 2) := by decide +kernel
theorem dJ6_bitCount_0f7a4_38 : decode cJ6_bitCount_0f7a4 38 = .ok (.iushr, 1) := by decide +kernel
theorem dJ6_bitCount_0f7a4_39 : decode cJ6_bitCount_0f7a4 39 = .ok (.iadd, 1) := by decide +kernel
theorem dJ6_bitCount_0f7a4_40 : decode cJ6_bitCount_0f7a4 40 = .ok (.istore_n 0, 1) := by decide +kernel
theorem dJ6_bitCount_0f7a4_41 : decode cJ6_bitCount_0f7a4 41 = .ok (.iload_n 0, 1) := by decide +kernel
theorem dJ6_bitCount_0f7a4_42 : decode cJ6_bitCount_0f7a4 42 = .ok (.iload_n 0, 1) := by decide +kernel
theorem dJ6_bitCount_0f7a4_43 : decode cJ6_bitCount_0f7a4 43 = .ok (.bipush 16, 2) := by decide +kernel
theorem dJ6_bitCount_0f7a4_45 : decode cJ6_bitCount_0f7a4 45 = .ok (.iushr, 1) := by decide +kernel
theorem dJ6_bitCount_0f7a4_46 : decode cJ6_bitCount_0f7a4 46 = .ok (.iadd, 1) := by decide +kernel
theorem dJ6_bitCount_0f7a4_47 : decode cJ6_bitCount_0f7a4 47 = .ok (.istore_n 0, 1) := by decide +kernel
theorem dJ6_bitCount_0f7a4_48 : decode cJ6_bitCount_0f7a4 48 = .ok (.iload_n 0, 1) := by decide +kernel
theorem dJ6_bitCount_0f7a4_49 : decode cJ6_bitCount_0f7a4 49 = .ok (.bipush 63, 2) := by decide +kernel
theorem dJ6_bitCount_0f7a4_51 : decode cJ6_bitCount_0f7a4 51 = .ok (.iand, 1) := by decide +kernel
theorem dJ6_bitCount_0f7a4_52 : decode cJ6_bitCount_0f7a4 52 = .ok (.ireturn, 1) := by decide +kernel
theorem dX3_append_0 : decode cX3_append 0 = .ok (.aload_n 0, 1) := by decide +kernel
theorem dX3_append_1 : decode cX3_append 1 = .ok (.getfield 15, 3) := by decide +kernel
theorem dX3_append_4 : decode cX3_append 4 = .ok (.bipush 24, 2) := by decide +kernel
theorem dX3_append_6 : decode cX3_append 6 = .ok (.if_icmp .ge 23, 3) := by decide +kernel
theorem dX3_append_9 : decode cX3_append 9 = .ok (.aload_n 0, 1) := by decide +kernel
theorem dX3_append_10 : decode cX3_append 10 = .ok (.getfield 9, 3) := by decide +kernel
theorem dX3_append_13 : decode cX3_append 13 = .ok (.aload_n 0, 1) := by decide +kernel
theorem dX3_append_14 : decode cX3_append 14 = .ok (.getfield 15, 3) := by decide +kernel
theorem dX3_append_17 : decode cX3_append 17 = .ok (.iload_n 1, 1) := by decide +kernel
theorem dX3_append_18 : decode cX3_append 18 = .ok (.iastore, 1) := by decide +kernel
theorem dX3_append_19 : decode cX3_append 19 = .ok (.aload_n 0, 1) := by decide +kernel
theorem dX3_append_20 : decode cX3_append 20 = .ok (.dup, 1) := by decide +kernel
theorem dX3_append_21 : decode cX3_append 21 = .ok (.getfield 15, 3) := by decide +kernel
theorem dX3_append_24 : decode cX3_append 24 = .ok (.iconst 1, 1) := by decide +kernel
theorem dX3_append_25 : decode cX3_append 25 = .ok (.iadd, 1) := by decide +kernel
theorem dX3_append_26 : decode cX3_append 26 = .ok (.putfield 15, 3) := by decide +kernel
theorem dX3_append_29 : decode cX3_append 29 = .ok (.return_, 1) := by decide +kernel
theorem dX3_at_0 : decode cX3_at 0 = .ok (.iload_n 1, 1) := by decide +kernel
theorem dX3_at_1 : decode cX3_at 1 = .ok (.aload_n 0, 1) := by decide +kernel
theorem dX3_at_2 : decode cX3_at 2 = .ok (.getfield 15, 3) := by decide +kernel
theorem dX3_at_5 : decode cX3_at 5 = .ok (.invokestatic 19, 3) := by decide +kernel
theorem dX3_at_8 : decode cX3_at 8 = .ok (.ifCond .eq 18, 3) := by decide +kernel
theorem dX3_at_11 : decode cX3_at 11 = .ok (.iload_n 1, 1) := by decide +kernel
theorem dX3_at_12 : decode cX3_at 12 = .ok (.bipush 24, 2) := by decide +kernel
theorem dX3_at_14 : decode cX3_at 14 = .ok (.if_icmp .ge 12, 3) := by decide +kernel
theorem dX3_at_17 : decode cX3_at 17 = .ok (.aload_n 0, 1) := by decide +kernel
theorem dX3_at_18 : decode cX3_at 18 = .ok (.getfield 9, 3) := by decide +kernel
theorem dX3_at_21 : decode cX3_at 21 = .ok (.iload_n 1, 1) := by decide +kernel
theorem dX3_at_22 : decode cX3_at 22 = .ok (.iaload, 1) := by decide +kernel
theorem dX3_at_23 : decode cX3_at 23 = .ok (.goto 4, 3) := by decide +kernel
theorem dX3_at_26 : decode cX3_at 26 = .ok (.iconst (-1), 1) := by decide +kernel
theorem dX3_at_27 : decode cX3_at 27 = .ok (.ireturn, 1) := by decide +kernel
theorem dX3_takeFirst_0 : decode cX3_takeFirst 0 = .ok (.aload_n 0, 1) := by decide +kernel
theorem dX3_takeFirst_1 : decode cX3_takeFirst 1 = .ok (.getfield 15, 3) := by decide +kernel
theorem dX3_takeFirst_4 : decode cX3_takeFirst 4 = .ok (.ifCond .le 12, 3) := by decide +kernel
theorem dX3_takeFirst_7 : decode cX3_takeFirst 7 = .ok (.aload_n 0, 1) := by decide +kernel
theorem dX3_takeFirst_8 : decode cX3_takeFirst 8 = .ok (.getfield 15, 3) := by decide +kernel
theorem dX3_takeFirst_11 : decode cX3_takeFirst 11 = .ok (.bipush 24, 2) := by decide +kernel
theorem dX3_takeFirst_13 : decode cX3_takeFirst 13 = .ok (.if_icmp .le 5, 3) := by decide +kernel
theorem dX3_takeFirst_16 : decode cX3_takeFirst 16 = .ok (.iconst (-1), 1) := by decide +kernel
theorem dX3_takeFirst_17 : decode cX3_takeFirst 17 = .ok (.ireturn, 1) := by decide +kernel
theorem dX3_takeFirst_18 : decode cX3_takeFirst 18 = .ok (.aload_n 0, 1) := by decide +kernel
theorem dX3_takeFirst_19 : decode cX3_takeFirst 19 = .ok (.getfield 9, 3) := by decide +kernel
theorem dX3_takeFirst_22 : decode cX3_takeFirst 22 = .ok (.iconst 0, 1) := by decide +kernel
theorem dX3_takeFirst_23 : decode cX3_takeFirst 23 = .ok (.iaload, 1) := by decide +kernel
theorem dX3_takeFirst_24 : decode cX3_takeFirst 24 = .ok (.istore_n 1, 1) := by decide +kernel
theorem dX3_takeFirst_25 : decode cX3_takeFirst 25 = .ok (.aload_n 0, 1) := by decide +kernel
theorem dX3_takeFirst_26 : decode cX3_takeFirst 26 = .ok (.dup, 1) := by decide +kernel
theorem dX3_takeFirst_27 : decode cX3_takeFirst 27 = .ok (.getfield 15, 3) := by decide +kernel
theorem dX3_takeFirst_30 : decode cX3_takeFirst 30 = .ok (.iconst 1, 1) := by decide +kernel
theorem dX3_takeFirst_31 : decode cX3_takeFirst 31 = .ok (.isub, 1) := by decide +kernel
theorem dX3_takeFirst_32 : decode cX3_takeFirst 32 = .ok (.putfield 15, 3) := by decide +kernel
theorem dX3_takeFirst_35 : decode cX3_takeFirst 35 = .ok (.aload_n 0, 1) := by decide +kernel
theorem dX3_takeFirst_36 : decode cX3_takeFirst 36 = .ok (.getfield 9, 3) := by decide +kernel
theorem dX3_takeFirst_39 : decode cX3_takeFirst 39 = .ok (.iconst 1, 1) := by decide +kernel
theorem dX3_takeFirst_40 : decode cX3_takeFirst 40 = .ok (.aload_n 0, 1) := by decide +kernel
theorem dX3_takeFirst_41 : decode cX3_takeFirst 41 = .ok (.getfield 9, 3) := by decide +kernel
theorem dX3_takeFirst_44 : decode cX3_takeFirst 44 = .ok (.iconst 0, 1) := by decide +kernel
theorem dX3_takeFirst_45 : decode cX3_takeFirst 45 = .ok (.aload_n 0, 1) := by decide +kernel
theorem dX3_takeFirst_46 : decode cX3_takeFirst 46 = .ok (.getfield 15, 3) := by decide +kernel
theorem dX3_takeFirst_49 : decode cX3_takeFirst 49 = .ok (.invokestatic 23, 3) := by decide +kernel
theorem dX3_takeFirst_52 : decode cX3_takeFirst 52 = .ok (.iload_n 1, 1) := by decide +kernel
theorem dX3_takeFirst_53 : decode cX3_takeFirst 53 = .ok (.ireturn, 1) := by decide +kernel
theorem dX3_placeOf_0 : decode cX3_placeOf 0 = .ok (.iconst 0, 1) := by decide +kernel
theorem dX3_placeOf_1 : decode cX3_placeOf 1 = .ok (.istore_n 2, 1) := by decide +kernel
theorem dX3_placeOf_2 : decode cX3_placeOf 2 = .ok (.iload_n 2, 1) := by decide +kernel
theorem dX3_placeOf_3 : decode cX3_placeOf 3 = .ok (.aload_n 0, 1) := by decide +kernel
theorem dX3_placeOf_4 : decode cX3_placeOf 4 = .ok (.getfield 15, 3) := by decide +kernel
theorem dX3_placeOf_7 : decode cX3_placeOf 7 = .ok (.if_icmp .ge 27, 3) := by decide +kernel
theorem dX3_placeOf_10 : decode cX3_placeOf 10 = .ok (.iload_n 2, 1) := by decide +kernel
theorem dX3_placeOf_11 : decode cX3_placeOf 11 = .ok (.bipush 24, 2) := by decide +kernel
theorem dX3_placeOf_13 : decode cX3_placeOf 13 = .ok (.if_icmp .ge 21, 3) := by decide +kernel
theorem dX3_placeOf_16 : decode cX3_placeOf 16 = .ok (.aload_n 0, 1) := by decide +kernel
theorem dX3_placeOf_17 : decode cX3_placeOf 17 = .ok (.getfield 9, 3) := by decide +kernel
theorem dX3_placeOf_20 : decode cX3_placeOf 20 = .ok (.iload_n 2, 1) := by decide +kernel
theorem dX3_placeOf_21 : decode cX3_placeOf 21 = .ok (.iaload, 1) := by decide +kernel
theorem dX3_placeOf_22 : decode cX3_placeOf 22 = .ok (.iload_n 1, 1) := by decide +kernel
theorem dX3_placeOf_23 : decode cX3_placeOf 23 = .ok (.if_icmp .ne 5, 3) := by decide +kernel
theorem dX3_placeOf_26 : decode cX3_placeOf 26 = .ok (.iload_n 2, 1) := by decide +kernel
theorem dX3_placeOf_27 : decode cX3_placeOf 27 = .ok (.ireturn, 1) := by decide +kernel
theorem dX3_placeOf_28 : decode cX3_placeOf 28 = .ok (.iinc 2 1, 3) := by decide +kernel
theorem dX3_placeOf_31 : decode cX3_placeOf 31 = .ok (.goto (-29), 3) := by decide +kernel
theorem dX3_placeOf_34 : decode cX3_placeOf 34 = .ok (.iconst (-1), 1) := by decide +kernel
theorem dX3_placeOf_35 : decode cX3_placeOf 35 = .ok (.ireturn, 1) := by decide +kernel
theorem dX3_asSet_0 : decode cX3_asSet 0 = .ok (.iconst 0, 1) := by decide +kernel
theorem dX3_asSet_1 : decode cX3_asSet 1 = .ok (.istore_n 1, 1) := by decide +kernel
theorem dX3_asSet_2 : decode cX3_asSet 2 = .ok (.iconst 0, 1) := by decide +kernel
theorem dX3_asSet_3 : decode cX3_asSet 3 = .ok (.istore_n 2, 1) := by decide +kernel
theorem dX3_asSet_4 : decode cX3_asSet 4 = .ok (.iload_n 2, 1) := by decide +kernel
theorem dX3_asSet_5 : decode cX3_asSet 5 = .ok (.aload_n 0, 1) := by decide +kernel
theorem dX3_asSet_6 : decode cX3_asSet 6 = .ok (.getfield 15, 3) := by decide +kernel
theorem dX3_asSet_9 : decode cX3_asSet 9 = .ok (.if_icmp .ge 27, 3) := by decide +kernel
theorem dX3_asSet_12 : decode cX3_asSet 12 = .ok (.iload_n 2, 1) := by decide +kernel
theorem dX3_asSet_13 : decode cX3_asSet 13 = .ok (.bipush 24, 2) := by decide +kernel
theorem dX3_asSet_15 : decode cX3_asSet 15 = .ok (.if_icmp .ge 21, 3) := by decide +kernel
theorem dX3_asSet_18 : decode cX3_asSet 18 = .ok (.iload_n 1, 1) := by decide +kernel
theorem dX3_asSet_19 : decode cX3_asSet 19 = .ok (.aload_n 0, 1) := by decide +kernel
theorem dX3_asSet_20 : decode cX3_asSet 20 = .ok (.getfield 9, 3) := by decide +kernel
theorem dX3_asSet_23 : decode cX3_asSet 23 = .ok (.iload_n 2, 1) := by decide +kernel
theorem dX3_asSet_24 : decode cX3_asSet 24 = .ok (.iaload, 1) := by decide +kernel
theorem dX3_asSet_25 : decode cX3_asSet 25 = .ok (.invokestatic 29, 3) := by decide +kernel
theorem dX3_asSet_28 : decode cX3_asSet 28 = .ok (.ior, 1) := by decide +kernel
theorem dX3_asSet_29 : decode cX3_asSet 29 = .ok (.istore_n 1, 1) := by decide +kernel
theorem dX3_asSet_30 : decode cX3_asSet 30 = .ok (.iinc 2 1, 3) := by decide +kernel
theorem dX3_asSet_33 : decode cX3_asSet 33 = .ok (.goto (-29), 3) := by decide +kernel
theorem dX3_asSet_36 : decode cX3_asSet 36 = .ok (.iload_n 1, 1) := by decide +kernel
theorem dX3_asSet_37 : decode cX3_asSet 37 = .ok (.ireturn, 1) := by decide +kernel
theorem dX1_has_0 : decode cX1_has 0 = .ok (.aload_n 0, 1) := by decide +kernel
theorem dX1_has_1 : decode cX1_has 1 = .ok (.getfield 34, 3) := by decide +kernel
theorem dX1_has_4 : decode cX1_has 4 = .ok (.iload_n 1, 1) := by decide +kernel
theorem dX1_has_5 : decode cX1_has 5 = .ok (.invokestatic 38, 3) := by decide +kernel
theorem dX1_has_8 : decode cX1_has 8 = .ok (.iand, 1) := by decide +kernel
theorem dX1_has_9 : decode cX1_has 9 = .ok (.ifCond .eq 7, 3) := by decide +kernel
theorem dX1_has_12 : decode cX1_has 12 = .ok (.iconst 1, 1) := by decide +kernel
theorem dX1_has_13 : decode cX1_has 13 = .ok (.goto 4, 3) := by decide +kernel
theorem dX1_has_16 : decode cX1_has 16 = .ok (.iconst 0, 1) := by decide +kernel
theorem dX1_has_17 : decode cX1_has 17 = .ok (.ireturn, 1) := by decide +kernel
theorem dX1_hasOrNone_0 : decode cX1_hasOrNone 0 = .ok (.iload_n 1, 1) := by decide +kernel
theorem dX1_hasOrNone_1 : decode cX1_hasOrNone 1 = .ok (.iconst (-1), 1) := by decide +kernel
theorem dX1_hasOrNone_2 : decode cX1_hasOrNone 2 = .ok (.if_icmp .eq 11, 3) := by decide +kernel
theorem dX1_hasOrNone_5 : decode cX1_hasOrNone 5 = .ok (.aload_n 0, 1) := by decide +kernel
theorem dX1_hasOrNone_6 : decode cX1_hasOrNone 6 = .ok (.iload_n 1, 1) := by decide +kernel
theorem dX1_hasOrNone_7 : decode cX1_hasOrNone 7 = .ok (.invokevirtual 42, 3) := by decide +kernel
theorem dX1_hasOrNone_10 : decode cX1_hasOrNone 10 = .ok (.ifCond .eq 7, 3) := by decide +kernel
theorem dX1_hasOrNone_13 : decode cX1_hasOrNone 13 = .ok (.iconst 1, 1) := by decide +kernel
theorem dX1_hasOrNone_14 : decode cX1_hasOrNone 14 = .ok (.goto 4, 3) := by decide +kernel
theorem dX1_hasOrNone_17 : decode cX1_hasOrNone 17 = .ok (.iconst 0, 1) := by decide +kernel
theorem dX1_hasOrNone_18 : decode cX1_hasOrNone 18 = .ok (.ireturn, 1) := by decide +kernel
theorem dX1_size_0 : decode cX1_size 0 = .ok (.aload_n 0, 1) := by decide +kernel
theorem dX1_size_1 : decode cX1_size 1 = .ok (.getfield 34, 3) := by decide +kernel
theorem dX1_size_4 : decode cX1_size 4 = .ok (.invokestatic 46, 3) := by decide +kernel
theorem dX1_size_7 : decode cX1_size 7 = .ok (.ireturn, 1) := by decide +kernel
theorem dX1_fieldOf_0 : decode cX1_fieldOf 0 = .ok (.iload_n 1, 1) := by decide +kernel
theorem dX1_fieldOf_1 : decode cX1_fieldOf 1 = .ok (.bipush 24, 2) := by decide +kernel
theorem dX1_fieldOf_3 : decode cX1_fieldOf 3 = .ok (.invokestatic 51, 3) := by decide +kernel
theorem dX1_fieldOf_6 : decode cX1_fieldOf 6 = .ok (.ifCond .eq 24, 3) := by decide +kernel
theorem dX1_fieldOf_9 : decode cX1_fieldOf 9 = .ok (.iload_n 2, 1) := by decide +kernel
theorem dX1_fieldOf_10 : decode cX1_fieldOf 10 = .ok (.iconst 3, 1) := by decide +kernel
theorem dX1_fieldOf_11 : decode cX1_fieldOf 11 = .ok (.invokestatic 51, 3) := by decide +kernel
theorem dX1_fieldOf_14 : decode cX1_fieldOf 14 = .ok (.ifCond .eq 16, 3) := by decide +kernel
theorem dX1_fieldOf_17 : decode cX1_fieldOf 17 = .ok (.aload_n 0, 1) := by decide +kernel
theorem dX1_fieldOf_18 : decode cX1_fieldOf 18 = .ok (.getfield 9, 3) := by decide +kernel
theorem dX1_fieldOf_21 : decode cX1_fieldOf 21 = .ok (.iload_n 1, 1) := by decide +kernel
theorem dX1_fieldOf_22 : decode cX1_fieldOf 22 = .ok (.iconst 3, 1) := by decide +kernel
theorem dX1_fieldOf_23 : decode cX1_fieldOf 23 = .ok (.imul, 1) := by decide +kernel
theorem dX1_fieldOf_24 : decode cX1_fieldOf 24 = .ok (.iload_n 2, 1) := by decide +kernel
theorem dX1_fieldOf_25 : decode cX1_fieldOf 25 = .ok (.iadd, 1) := by decide +kernel
theorem dX1_fieldOf_26 : decode cX1_fieldOf 26 = .ok (.iaload, 1) := by decide +kernel
theorem dX1_fieldOf_27 : decode cX1_fieldOf 27 = .ok (.goto 4, 3) := by decide +kernel
theorem dX1_fieldOf_30 : decode cX1_fieldOf 30 = .ok (.iconst (-1), 1) := by decide +kernel
theorem dX1_fieldOf_31 : decode cX1_fieldOf 31 = .ok (.ireturn, 1) := by decide +kernel
theorem dX1_setField_0 : decode cX1_setField 0 = .ok (.iload_n 1, 1) := by decide +kernel
theorem dX1_setField_1 : decode cX1_setField 1 = .ok (.ifCond .lt 29, 3) := by decide +kernel
theorem dX1_setField_4 : decode cX1_setField 4 = .ok (.iload_n 1, 1) := by decide +kernel
theorem dX1_setField_5 : decode cX1_setField 5 = .ok (.bipush 24, 2) := by decide +kernel
theorem dX1_setField_7 : decode cX1_setField 7 = .ok (.if_icmp .ge 23, 3) := by decide +kernel
theorem dX1_setField_10 : decode cX1_setField 10 = .ok (.iload_n 2, 1) := by decide +kernel
theorem dX1_setField_11 : decode cX1_setField 11 = .ok (.ifCond .lt 19, 3) := by decide +kernel
theorem dX1_setField_14 : decode cX1_setField 14 = .ok (.iload_n 2, 1) := by decide +kernel
theorem dX1_setField_15 : decode cX1_setField 15 = .ok (.iconst 3, 1) := by decide +kernel
theorem dX1_setField_16 : decode cX1_setField 16 = .ok (.if_icmp .ge 14, 3) := by decide +kernel
theorem dX1_setField_19 : decode cX1_setField 19 = .ok (.aload_n 0, 1) := by decide +kernel
theorem dX1_setField_20 : decode cX1_setField 20 = .ok (.getfield 9, 3) := by decide +kernel
theorem dX1_setField_23 : decode cX1_setField 23 = .ok (.iload_n 1, 1) := by decide +kernel
theorem dX1_setField_24 : decode cX1_setField 24 = .ok (.iconst 3, 1) := by decide +kernel
theorem dX1_setField_25 : decode cX1_setField 25 = .ok (.imul, 1) := by decide +kernel
theorem dX1_setField_26 : decode cX1_setField 26 = .ok (.iload_n 2, 1) := by decide +kernel
theorem dX1_setField_27 : decode cX1_setField 27 = .ok (.iadd, 1) := by decide +kernel
theorem dX1_setField_28 : decode cX1_setField 28 = .ok (.iload_n 3, 1) := by decide +kernel
theorem dX1_setField_29 : decode cX1_setField 29 = .ok (.iastore, 1) := by decide +kernel
theorem dX1_setField_30 : decode cX1_setField 30 = .ok (.return_, 1) := by decide +kernel
theorem dX1_rootAt_0 : decode cX1_rootAt 0 = .ok (.iload_n 1, 1) := by decide +kernel
theorem dX1_rootAt_1 : decode cX1_rootAt 1 = .ok (.iconst 4, 1) := by decide +kernel
theorem dX1_rootAt_2 : decode cX1_rootAt 2 = .ok (.invokestatic 51, 3) := by decide +kernel
theorem dX1_rootAt_5 : decode cX1_rootAt 5 = .ok (.ifCond .eq 12, 3) := by decide +kernel
theorem dX1_rootAt_8 : decode cX1_rootAt 8 = .ok (.aload_n 0, 1) := by decide +kernel
theorem dX1_rootAt_9 : decode cX1_rootAt 9 = .ok (.getfield 15, 3) := by decide +kernel
theorem dX1_rootAt_12 : decode cX1_rootAt 12 = .ok (.iload_n 1, 1) := by decide +kernel
theorem dX1_rootAt_13 : decode cX1_rootAt 13 = .ok (.iaload, 1) := by decide +kernel
theorem dX1_rootAt_14 : decode cX1_rootAt 14 = .ok (.goto 4, 3) := by decide +kernel
theorem dX1_rootAt_17 : decode cX1_rootAt 17 = .ok (.iconst (-1), 1) := by decide +kernel
theorem dX1_rootAt_18 : decode cX1_rootAt 18 = .ok (.ireturn, 1) := by decide +kernel
theorem dX1_holderAt_0 : decode cX1_holderAt 0 = .ok (.iload_n 1, 1) := by decide +kernel
theorem dX1_holderAt_1 : decode cX1_holderAt 1 = .ok (.iconst 4, 1) := by decide +kernel
theorem dX1_holderAt_2 : decode cX1_holderAt 2 = .ok (.invokestatic 51, 3) := by decide +kernel
theorem dX1_holderAt_5 : decode cX1_holderAt 5 = .ok (.ifCond .eq 12, 3) := by decide +kernel
theorem dX1_holderAt_8 : decode cX1_holderAt 8 = .ok (.aload_n 0, 1) := by decide +kernel
theorem dX1_holderAt_9 : decode cX1_holderAt 9 = .ok (.getfield 18, 3) := by decide +kernel
theorem dX1_holderAt_12 : decode cX1_holderAt 12 = .ok (.iload_n 1, 1) := by decide +kernel
theorem dX1_holderAt_13 : decode cX1_holderAt 13 = .ok (.iaload, 1) := by decide +kernel
theorem dX1_holderAt_14 : decode cX1_holderAt 14 = .ok (.goto 4, 3) := by decide +kernel
theorem dX1_holderAt_17 : decode cX1_holderAt 17 = .ok (.iconst (-1), 1) := by decide +kernel
theorem dX1_holderAt_18 : decode cX1_holderAt 18 = .ok (.ireturn, 1) := by decide +kernel
theorem dX1_tellReferred_0 : decode cX1_tellReferred 0 = .ok (.iload_n 1, 1) := by decide +kernel
theorem dX1_tellReferred_1 : decode cX1_tellReferred 1 = .ok (.ifCond .lt 24, 3) := by decide +kernel
theorem dX1_tellReferred_4 : decode cX1_tellReferred 4 = .ok (.iload_n 1, 1) := by decide +kernel
theorem dX1_tellReferred_5 : decode cX1_tellReferred 5 = .ok (.iconst 1, 1) := by decide +kernel
theorem dX1_tellReferred_6 : decode cX1_tellReferred 6 = .ok (.if_icmp .gt 19, 3) := by decide +kernel
theorem dX1_tellReferred_9 : decode cX1_tellReferred 9 = .ok (.iload_n 2, 1) := by decide +kernel
theorem dX1_tellReferred_10 : decode cX1_tellReferred 10 = .ok (.iload_n 1, 1) := by decide +kernel
theorem dX1_tellReferred_11 : decode cX1_tellReferred 11 = .ok (.ifCond .ne 7, 3) := by decide +kernel
theorem dX1_tellReferred_14 : decode cX1_tellReferred 14 = .ok (.iconst 4, 1) := by decide +kernel
theorem dX1_tellReferred_15 : decode cX1_tellReferred 15 = .ok (.goto 4, 3) := by decide +kernel
theorem dX1_tellReferred_18 : decode cX1_tellReferred 18 = .ok (.iconst 4, 1) := by decide +kernel
theorem dX1_tellReferred_19 : decode cX1_tellReferred 19 = .ok (.invokestatic 51, 3) := by decide +kernel
theorem dX1_tellReferred_22 : decode cX1_tellReferred 22 = .ok (.ifCond .ne 6, 3) := by decide +kernel
theorem dX1_tellReferred_25 : decode cX1_tellReferred 25 = .ok (.bipush (-11), 2) := by decide +kernel
theorem dX1_tellReferred_27 : decode cX1_tellReferred 27 = .ok (.ireturn, 1) := by decide +kernel
theorem dX1_tellReferred_28 : decode cX1_tellReferred 28 = .ok (.iload_n 1, 1) := by decide +kernel
theorem dX1_tellReferred_29 : decode cX1_tellReferred 29 = .ok (.ifCond .ne 11, 3) := by decide +kernel
theorem dX1_tellReferred_32 : decode cX1_tellReferred 32 = .ok (.aload_n 0, 1) := by decide +kernel
theorem dX1_tellReferred_33 : decode cX1_tellReferred 33 = .ok (.iload_n 2, 1) := by decide +kernel
theorem dX1_tellReferred_34 : decode cX1_tellReferred 34 = .ok (.invokevirtual 55, 3) := by decide +kernel
theorem dX1_tellReferred_37 : decode cX1_tellReferred 37 = .ok (.goto 8, 3) := by decide +kernel
theorem dX1_tellReferred_40 : decode cX1_tellReferred 40 = .ok (.aload_n 0, 1) := by decide +kernel
theorem dX1_tellReferred_41 : decode cX1_tellReferred 41 = .ok (.iload_n 2, 1) := by decide +kernel
theorem dX1_tellReferred_42 : decode cX1_tellReferred 42 = .ok (.invokevirtual 58, 3) := by decide +kernel
theorem dX1_tellReferred_45 : decode cX1_tellReferred 45 = .ok (.istore_n 3, 1) := by decide +kernel
theorem dX1_tellReferred_46 : decode cX1_tellReferred 46 = .ok (.iload_n 3, 1) := by decide +kernel
theorem dX1_tellReferred_47 : decode cX1_tellReferred 47 = .ok (.iconst (-1), 1) := by decide +kernel
theorem dX1_tellReferred_48 : decode cX1_tellReferred 48 = .ok (.if_icmp .ne 8, 3) := by decide +kernel
theorem dX1_tellReferred_51 : decode cX1_tellReferred 51 = .ok (.bipush (-14), 2) := by decide +kernel
theorem dX1_tellReferred_53 : decode cX1_tellReferred 53 = .ok (.goto 4, 3) := by decide +kernel
theorem dX1_tellReferred_56 : decode cX1_tellReferred 56 = .ok (.iload_n 3, 1) := by decide +kernel
theorem dX1_tellReferred_57 : decode cX1_tellReferred 57 = .ok (.ireturn, 1) := by decide +kernel
theorem dX1_bring_0 : decode cX1_bring 0 = .ok (.aload_n 0, 1) := by decide +kernel
theorem dX1_bring_1 : decode cX1_bring 1 = .ok (.getfield 34, 3) := by decide +kernel
theorem dX1_bring_4 : decode cX1_bring 4 = .ok (.iconst (-1), 1) := by decide +kernel
theorem dX1_bring_5 : decode cX1_bring 5 = .ok (.ixor, 1) := by decide +kernel
theorem dX1_bring_6 : decode cX1_bring 6 = .ok (.iconst 0, 1) := by decide +kernel
theorem dX1_bring_7 : decode cX1_bring 7 = .ok (.invokestatic 61, 3) := by decide +kernel
theorem dX1_bring_10 : decode cX1_bring 10 = .ok (.istore_n 1, 1) := by decide +kernel
theorem dX1_bring_11 : decode cX1_bring 11 = .ok (.aload_n 0, 1) := by decide +kernel
theorem dX1_bring_12 : decode cX1_bring 12 = .ok (.dup, 1) := by decide +kernel
theorem dX1_bring_13 : decode cX1_bring 13 = .ok (.getfield 34, 3) := by decide +kernel
theorem dX1_bring_16 : decode cX1_bring 16 = .ok (.iload_n 1, 1) := by decide +kernel
theorem dX1_bring_17 : decode cX1_bring 17 = .ok (.invokestatic 38, 3) := by decide +kernel
theorem dX1_bring_20 : decode cX1_bring 20 = .ok (.ior, 1) := by decide +kernel
theorem dX1_bring_21 : decode cX1_bring 21 = .ok (.putfield 34, 3) := by decide +kernel
theorem dX1_bring_24 : decode cX1_bring 24 = .ok (.iload_n 1, 1) := by decide +kernel
theorem dX1_bring_25 : decode cX1_bring 25 = .ok (.ireturn, 1) := by decide +kernel
theorem dX1_forget_0 : decode cX1_forget 0 = .ok (.iconst 0, 1) := by decide +kernel
theorem dX1_forget_1 : decode cX1_forget 1 = .ok (.istore_n 2, 1) := by decide +kernel
theorem dX1_forget_2 : decode cX1_forget 2 = .ok (.iload_n 2, 1) := by decide +kernel
theorem dX1_forget_3 : decode cX1_forget 3 = .ok (.aload_n 0, 1) := by decide +kernel
theorem dX1_forget_4 : decode cX1_forget 4 = .ok (.arraylength, 1) := by decide +kernel
theorem dX1_forget_5 : decode cX1_forget 5 = .ok (.if_icmp .ge 20, 3) := by decide +kernel
theorem dX1_forget_8 : decode cX1_forget 8 = .ok (.aload_n 0, 1) := by decide +kernel
theorem dX1_forget_9 : decode cX1_forget 9 = .ok (.iload_n 2, 1) := by decide +kernel
theorem dX1_forget_10 : decode cX1_forget 10 = .ok (.iaload, 1) := by decide +kernel
theorem dX1_forget_11 : decode cX1_forget 11 = .ok (.iload_n 1, 1) := by decide +kernel
theorem dX1_forget_12 : decode cX1_forget 12 = .ok (.if_icmp .ne 7, 3) := by decide +kernel
theorem dX1_forget_15 : decode cX1_forget 15 = .ok (.aload_n 0, 1) := by decide +kernel
theorem dX1_forget_16 : decode cX1_forget 16 = .ok (.iload_n 2, 1) := by decide +kernel
theorem dX1_forget_17 : decode cX1_forget 17 = .ok (.iconst (-1), 1) := by decide +kernel
theorem dX1_forget_18 : decode cX1_forget 18 = .ok (.iastore, 1) := by decide +kernel
theorem dX1_forget_19 : decode cX1_forget 19 = .ok (.iinc 2 1, 3) := by decide +kernel
theorem dX1_forget_22 : decode cX1_forget 22 = .ok (.goto (-20), 3) := by decide +kernel
theorem dX1_forget_25 : decode cX1_forget 25 = .ok (.return_, 1) := by decide +kernel
theorem dX1_letGo_0 : decode cX1_letGo 0 = .ok (.aload_n 0, 1) := by decide +kernel
theorem dX1_letGo_1 : decode cX1_letGo 1 = .ok (.dup, 1) := by decide +kernel
theorem dX1_letGo_2 : decode cX1_letGo 2 = .ok (.getfield 34, 3) := by decide +kernel
theorem dX1_letGo_5 : decode cX1_letGo 5 = .ok (.iload_n 1, 1) := by decide +kernel
theorem dX1_letGo_6 : decode cX1_letGo 6 = .ok (.invokestatic 38, 3) := by decide +kernel
theorem dX1_letGo_9 : decode cX1_letGo 9 = .ok (.iconst (-1), 1) := by decide +kernel
theorem dX1_letGo_10 : decode cX1_letGo 10 = .ok (.ixor, 1) := by decide +kernel
theorem dX1_letGo_11 : decode cX1_letGo 11 = .ok (.iand, 1) := by decide +kernel
theorem dX1_letGo_12 : decode cX1_letGo 12 = .ok (.putfield 34, 3) := by decide +kernel
theorem dX1_letGo_15 : decode cX1_letGo 15 = .ok (.aload_n 0, 1) := by decide +kernel
theorem dX1_letGo_16 : decode cX1_letGo 16 = .ok (.dup, 1) := by decide +kernel
theorem dX1_letGo_17 : decode cX1_letGo 17 = .ok (.getfield 65, 3) := by decide +kernel
theorem dX1_letGo_20 : decode cX1_letGo 20 = .ok (.iload_n 1, 1) := by decide +kernel
theorem dX1_letGo_21 : decode cX1_letGo 21 = .ok (.invokestatic 38, 3) := by decide +kernel
theorem dX1_letGo_24 : decode cX1_letGo 24 = .ok (.iconst (-1), 1) := by decide +kernel
theorem dX1_letGo_25 : decode cX1_letGo 25 = .ok (.ixor, 1) := by decide +kernel
theorem dX1_letGo_26 : decode cX1_letGo 26 = .ok (.iand, 1) := by decide +kernel
theorem dX1_letGo_27 : decode cX1_letGo 27 = .ok (.putfield 65, 3) := by decide +kernel
theorem dX1_letGo_30 : decode cX1_letGo 30 = .ok (.iconst 0, 1) := by decide +kernel
theorem dX1_letGo_31 : decode cX1_letGo 31 = .ok (.istore_n 2, 1) := by decide +kernel
theorem dX1_letGo_32 : decode cX1_letGo 32 = .ok (.iload_n 2, 1) := by decide +kernel
theorem dX1_letGo_33 : decode cX1_letGo 33 = .ok (.iconst 3, 1) := by decide +kernel
theorem dX1_letGo_34 : decode cX1_letGo 34 = .ok (.if_icmp .ge 16, 3) := by decide +kernel
theorem dX1_letGo_37 : decode cX1_letGo 37 = .ok (.aload_n 0, 1) := by decide +kernel
theorem dX1_letGo_38 : decode cX1_letGo 38 = .ok (.iload_n 1, 1) := by decide +kernel
theorem dX1_letGo_39 : decode cX1_letGo 39 = .ok (.iload_n 2, 1) := by decide +kernel
theorem dX1_letGo_40 : decode cX1_letGo 40 = .ok (.iconst (-1), 1) := by decide +kernel
theorem dX1_letGo_41 : decode cX1_letGo 41 = .ok (.invokevirtual 68, 3) := by decide +kernel
theorem dX1_letGo_44 : decode cX1_letGo 44 = .ok (.iinc 2 1, 3) := by decide +kernel
theorem dX1_letGo_47 : decode cX1_letGo 47 = .ok (.goto (-15), 3) := by decide +kernel
theorem dX1_letGo_50 : decode cX1_letGo 50 = .ok (.aload_n 0, 1) := by decide +kernel
theorem dX1_letGo_51 : decode cX1_letGo 51 = .ok (.getfield 9, 3) := by decide +kernel
theorem dX1_letGo_54 : decode cX1_letGo 54 = .ok (.iload_n 1, 1) := by decide +kernel
theorem dX1_letGo_55 : decode cX1_letGo 55 = .ok (.invokestatic 72, 3) := by decide +kernel
theorem dX1_letGo_58 : decode cX1_letGo 58 = .ok (.aload_n 0, 1) := by decide +kernel
theorem dX1_letGo_59 : decode cX1_letGo 59 = .ok (.getfield 18, 3) := by decide +kernel
theorem dX1_letGo_62 : decode cX1_letGo 62 = .ok (.iload_n 1, 1) := by decide +kernel
theorem dX1_letGo_63 : decode cX1_letGo 63 = .ok (.invokestatic 72, 3) := by decide +kernel
theorem dX1_letGo_66 : decode cX1_letGo 66 = .ok (.return_, 1) := by decide +kernel
theorem dX1_emptyHoldersOf_0 : decode cX1_emptyHoldersOf 0 = .ok (.iconst 0, 1) := by decide +kernel
theorem dX1_emptyHoldersOf_1 : decode cX1_emptyHoldersOf 1 = .ok (.istore_n 2, 1) := by decide +kernel
theorem dX1_emptyHoldersOf_2 : decode cX1_emptyHoldersOf 2 = .ok (.iload_n 2, 1) := by decide +kernel
theorem dX1_emptyHoldersOf_3 : decode cX1_emptyHoldersOf 3 = .ok (.iconst 4, 1) := by decide +kernel
theorem dX1_emptyHoldersOf_4 : decode cX1_emptyHoldersOf 4 = .ok (.if_icmp .ge 30, 3) := by decide +kernel
theorem dX1_emptyHoldersOf_7 : decode cX1_emptyHoldersOf 7 = .ok (.aload_n 0, 1) := by decide +kernel
theorem dX1_emptyHoldersOf_8 : decode cX1_emptyHoldersOf 8 = .ok (.getfield 18, 3) := by decide +kernel
theorem dX1_emptyHoldersOf_11 : decode cX1_emptyHoldersOf 11 = .ok (.iload_n 2, 1) := by decide +kernel
theorem dX1_emptyHoldersOf_12 : decode cX1_emptyHoldersOf 12 = .ok (.iaload, 1) := by decide +kernel
theorem dX1_emptyHoldersOf_13 : decode cX1_emptyHoldersOf 13 = .ok (.invokestatic 38, 3) := by decide +kernel
theorem dX1_emptyHoldersOf_16 : decode cX1_emptyHoldersOf 16 = .ok (.iload_n 1, 1) := by decide +kernel
theorem dX1_emptyHoldersOf_17 : decode cX1_emptyHoldersOf 17 = .ok (.iand, 1) := by decide +kernel
theorem dX1_emptyHoldersOf_18 : decode cX1_emptyHoldersOf 18 = .ok (.ifCond .eq 10, 3) := by decide +kernel
theorem dX1_emptyHoldersOf_21 : decode cX1_emptyHoldersOf 21 = .ok (.aload_n 0, 1) := by decide +kernel
theorem dX1_emptyHoldersOf_22 : decode cX1_emptyHoldersOf 22 = .ok (.getfield 18, 3) := by decide +kernel
theorem dX1_emptyHoldersOf_25 : decode cX1_emptyHoldersOf 25 = .ok (.iload_n 2, 1) := by decide +kernel
theorem dX1_emptyHoldersOf_26 : decode cX1_emptyHoldersOf 26 = .ok (.iconst (-1), 1) := by decide +kernel
theorem dX1_emptyHoldersOf_27 : decode cX1_emptyHoldersOf 27 = .ok (.iastore, 1) := by decide +kernel
theorem dX1_emptyHoldersOf_28 : decode cX1_emptyHoldersOf 28 = .ok (.iinc 2 1, 3) := by decide +kernel
theorem dX1_emptyHoldersOf_31 : decode cX1_emptyHoldersOf 31 = .ok (.goto (-29), 3) := by decide +kernel
theorem dX1_emptyHoldersOf_34 : decode cX1_emptyHoldersOf 34 = .ok (.return_, 1) := by decide +kernel
theorem dX1_setOfRoots_0 : decode cX1_setOfRoots 0 = .ok (.iconst 0, 1) := by decide +kernel
theorem dX1_setOfRoots_1 : decode cX1_setOfRoots 1 = .ok (.istore_n 1, 1) := by decide +kernel
theorem dX1_setOfRoots_2 : decode cX1_setOfRoots 2 = .ok (.iconst 0, 1) := by decide +kernel
theorem dX1_setOfRoots_3 : decode cX1_setOfRoots 3 = .ok (.istore_n 2, 1) := by decide +kernel
theorem dX1_setOfRoots_4 : decode cX1_setOfRoots 4 = .ok (.iload_n 2, 1) := by decide +kernel
theorem dX1_setOfRoots_5 : decode cX1_setOfRoots 5 = .ok (.iconst 4, 1) := by decide +kernel
theorem dX1_setOfRoots_6 : decode cX1_setOfRoots 6 = .ok (.if_icmp .ge 21, 3) := by decide +kernel
theorem dX1_setOfRoots_9 : decode cX1_setOfRoots 9 = .ok (.iload_n 1, 1) := by decide +kernel
theorem dX1_setOfRoots_10 : decode cX1_setOfRoots 10 = .ok (.aload_n 0, 1) := by decide +kernel
theorem dX1_setOfRoots_11 : decode cX1_setOfRoots 11 = .ok (.getfield 15, 3) := by decide +kernel
theorem dX1_setOfRoots_14 : decode cX1_setOfRoots 14 = .ok (.iload_n 2, 1) := by decide +kernel
theorem dX1_setOfRoots_15 : decode cX1_setOfRoots 15 = .ok (.iaload, 1) := by decide +kernel
theorem dX1_setOfRoots_16 : decode cX1_setOfRoots 16 = .ok (.invokestatic 38, 3) := by decide +kernel
theorem dX1_setOfRoots_19 : decode cX1_setOfRoots 19 = .ok (.ior, 1) := by decide +kernel
theorem dX1_setOfRoots_20 : decode cX1_setOfRoots 20 = .ok (.istore_n 1, 1) := by decide +kernel
theorem dX1_setOfRoots_21 : decode cX1_setOfRoots 21 = .ok (.iinc 2 1, 3) := by decide +kernel
theorem dX1_setOfRoots_24 : decode cX1_setOfRoots 24 = .ok (.goto (-20), 3) := by decide +kernel
theorem dX1_setOfRoots_27 : decode cX1_setOfRoots 27 = .ok (.iload_n 1, 1) := by decide +kernel
theorem dX1_setOfRoots_28 : decode cX1_setOfRoots 28 = .ok (.ireturn, 1) := by decide +kernel
theorem dX1_behind_0 : decode cX1_behind 0 = .ok (.iconst 0, 1) := by decide +kernel
theorem dX1_behind_1 : decode cX1_behind 1 = .ok (.istore_n 2, 1) := by decide +kernel
theorem dX1_behind_2 : decode cX1_behind 2 = .ok (.iconst 0, 1) := by decide +kernel
theorem dX1_behind_3 : decode cX1_behind 3 = .ok (.istore_n 3, 1) := by decide +kernel
theorem dX1_behind_4 : decode cX1_behind 4 = .ok (.iload_n 3, 1) := by decide +kernel
theorem dX1_behind_5 : decode cX1_behind 5 = .ok (.aload_n 0, 1) := by decide +kernel
theorem dX1_behind_6 : decode cX1_behind 6 = .ok (.getfield 9, 3) := by decide +kernel
theorem dX1_behind_9 : decode cX1_behind 9 = .ok (.arraylength, 1) := by decide +kernel
theorem dX1_behind_10 : decode cX1_behind 10 = .ok (.if_icmp .ge 32, 3) := by decide +kernel
theorem dX1_behind_13 : decode cX1_behind 13 = .ok (.iload_n 1, 1) := by decide +kernel
theorem dX1_behind_14 : decode cX1_behind 14 = .ok (.iload_n 3, 1) := by decide +kernel
theorem dX1_behind_15 : decode cX1_behind 15 = .ok (.iconst 3, 1) := by decide +kernel
theorem dX1_behind_16 : decode cX1_behind 16 = .ok (.idiv, 1) := by decide +kernel
theorem dX1_behind_17 : decode cX1_behind 17 = .ok (.invokestatic 38, 3) := by decide +kernel
theorem dX1_behind_20 : decode cX1_behind 20 = .ok (.iand, 1) := by decide +kernel
theorem dX1_behind_21 : decode cX1_behind 21 = .ok (.ifCond .eq 15, 3) := by decide +kernel
theorem dX1_behind_24 : decode cX1_behind 24 = .ok (.iload_n 2, 1) := by decide +kernel
theorem dX1_behind_25 : decode cX1_behind 25 = .ok (.aload_n 0, 1) := by decide +kernel
theorem dX1_behind_26 : decode cX1_behind 26 = .ok (.getfield 9, 3) := by decide +kernel
theorem dX1_behind_29 : decode cX1_behind 29 = .ok (.iload_n 3, 1) := by decide +kernel
theorem dX1_behind_30 : decode cX1_behind 30 = .ok (.iaload, 1) := by decide +kernel
theorem dX1_behind_31 : decode cX1_behind 31 = .ok (.invokestatic 38, 3) := by decide +kernel
theorem dX1_behind_34 : decode cX1_behind 34 = .ok (.ior, 1) := by decide +kernel
theorem dX1_behind_35 : decode cX1_behind 35 = .ok (.istore_n 2, 1) := by decide +kernel
theorem dX1_behind_36 : decode cX1_behind 36 = .ok (.iinc 3 1, 3) := by decide +kernel
theorem dX1_behind_39 : decode cX1_behind 39 = .ok (.goto (-35), 3) := by decide +kernel
theorem dX1_behind_42 : decode cX1_behind 42 = .ok (.iload_n 2, 1) := by decide +kernel
theorem dX1_behind_43 : decode cX1_behind 43 = .ok (.ireturn, 1) := by decide +kernel
theorem dX1_reachedFrom_0 : decode cX1_reachedFrom 0 = .ok (.iconst 0, 1) := by decide +kernel
theorem dX1_reachedFrom_1 : decode cX1_reachedFrom 1 = .ok (.istore_n 3, 1) := by decide +kernel
theorem dX1_reachedFrom_2 : decode cX1_reachedFrom 2 = .ok (.iload_n 1, 1) := by decide +kernel
theorem dX1_reachedFrom_3 : decode cX1_reachedFrom 3 = .ok (.iload_n 2, 1) := by decide +kernel
theorem dX1_reachedFrom_4 : decode cX1_reachedFrom 4 = .ok (.iconst (-1), 1) := by decide +kernel
theorem dX1_reachedFrom_5 : decode cX1_reachedFrom 5 = .ok (.ixor, 1) := by decide +kernel
theorem dX1_reachedFrom_6 : decode cX1_reachedFrom 6 = .ok (.iand, 1) := by decide +kernel
theorem dX1_reachedFrom_7 : decode cX1_reachedFrom 7 = .ok (.istore 4, 2) := by decide +kernel
theorem dX1_reachedFrom_9 : decode cX1_reachedFrom 9 = .ok (.iconst 0, 1) := by decide +kernel
theorem dX1_reachedFrom_10 : decode cX1_reachedFrom 10 = .ok (.istore 5, 2) := by decide +kernel
theorem dX1_reachedFrom_12 : decode cX1_reachedFrom 12 = .ok (.iload 5, 2) := by decide +kernel
theorem dX1_reachedFrom_14 : decode cX1_reachedFrom 14 = .ok (.bipush 24, 2) := by decide +kernel
theorem dX1_reachedFrom_16 : decode cX1_reachedFrom 16 = .ok (.if_icmp .ge 32, 3) := by decide +kernel
theorem dX1_reachedFrom_19 : decode cX1_reachedFrom 19 = .ok (.iload 4, 2) := by decide +kernel
theorem dX1_reachedFrom_21 : decode cX1_reachedFrom 21 = .ok (.iload_n 3, 1) := by decide +kernel
theorem dX1_reachedFrom_22 : decode cX1_reachedFrom 22 = .ok (.if_icmp .eq 26, 3) := by decide +kernel
theorem dX1_reachedFrom_25 : decode cX1_reachedFrom 25 = .ok (.iload 4, 2) := by decide +kernel
theorem dX1_reachedFrom_27 : decode cX1_reachedFrom 27 = .ok (.istore_n 3, 1) := by decide +kernel
theorem dX1_reachedFrom_28 : decode cX1_reachedFrom 28 = .ok (.iload 4, 2) := by decide +kernel
theorem dX1_reachedFrom_30 : decode cX1_reachedFrom 30 = .ok (.aload_n 0, 1) := by decide +kernel
theorem dX1_reachedFrom_31 : decode cX1_reachedFrom 31 = .ok (.iload_n 3, 1) := by decide +kernel
theorem dX1_reachedFrom_32 : decode cX1_reachedFrom 32 = .ok (.invokevirtual 75, 3) := by decide +kernel
theorem dX1_reachedFrom_35 : decode cX1_reachedFrom 35 = .ok (.iload_n 2, 1) := by decide +kernel
theorem dX1_reachedFrom_36 : decode cX1_reachedFrom 36 = .ok (.iconst (-1), 1) := by decide +kernel
theorem dX1_reachedFrom_37 : decode cX1_reachedFrom 37 = .ok (.ixor, 1) := by decide +kernel
theorem dX1_reachedFrom_38 : decode cX1_reachedFrom 38 = .ok (.iand, 1) := by decide +kernel
theorem dX1_reachedFrom_39 : decode cX1_reachedFrom 39 = .ok (.ior, 1) := by decide +kernel
theorem dX1_reachedFrom_40 : decode cX1_reachedFrom 40 = .ok (.istore 4, 2) := by decide +kernel
theorem dX1_reachedFrom_42 : decode cX1_reachedFrom 42 = .ok (.iinc 5 1, 3) := by decide +kernel
theorem dX1_reachedFrom_45 : decode cX1_reachedFrom 45 = .ok (.goto (-33), 3) := by decide +kernel
theorem dX1_reachedFrom_48 : decode cX1_reachedFrom 48 = .ok (.iload 4, 2) := by decide +kernel
theorem dX1_reachedFrom_50 : decode cX1_reachedFrom 50 = .ok (.ireturn, 1) := by decide +kernel
theorem dX1_reachedByRoots_0 : decode cX1_reachedByRoots 0 = .ok (.aload_n 0, 1) := by decide +kernel
theorem dX1_reachedByRoots_1 : decode cX1_reachedByRoots 1 = .ok (.aload_n 0, 1) := by decide +kernel
theorem dX1_reachedByRoots_2 : decode cX1_reachedByRoots 2 = .ok (.invokevirtual 78, 3) := by decide +kernel
theorem dX1_reachedByRoots_5 : decode cX1_reachedByRoots 5 = .ok (.iconst 0, 1) := by decide +kernel
theorem dX1_reachedByRoots_6 : decode cX1_reachedByRoots 6 = .ok (.invokevirtual 82, 3) := by decide +kernel
theorem dX1_reachedByRoots_9 : decode cX1_reachedByRoots 9 = .ok (.ireturn, 1) := by decide +kernel
theorem dX1_reachedByAll_0 : decode cX1_reachedByAll 0 = .ok (.aload_n 0, 1) := by decide +kernel
theorem dX1_reachedByAll_1 : decode cX1_reachedByAll 1 = .ok (.aload_n 0, 1) := by decide +kernel
theorem dX1_reachedByAll_2 : decode cX1_reachedByAll 2 = .ok (.invokevirtual 78, 3) := by decide +kernel
theorem dX1_reachedByAll_5 : decode cX1_reachedByAll 5 = .ok (.aload_n 0, 1) := by decide +kernel
theorem dX1_reachedByAll_6 : decode cX1_reachedByAll 6 = .ok (.getfield 24, 3) := by decide +kernel
theorem dX1_reachedByAll_9 : decode cX1_reachedByAll 9 = .ok (.invokevirtual 85, 3) := by decide +kernel
theorem dX1_reachedByAll_12 : decode cX1_reachedByAll 12 = .ok (.ior, 1) := by decide +kernel
theorem dX1_reachedByAll_13 : decode cX1_reachedByAll 13 = .ok (.iconst 0, 1) := by decide +kernel
theorem dX1_reachedByAll_14 : decode cX1_reachedByAll 14 = .ok (.invokevirtual 82, 3) := by decide +kernel
theorem dX1_reachedByAll_17 : decode cX1_reachedByAll 17 = .ok (.ireturn, 1) := by decide +kernel
theorem dX1_distanceTo_0 : decode cX1_distanceTo 0 = .ok (.aload_n 0, 1) := by decide +kernel
theorem dX1_distanceTo_1 : decode cX1_distanceTo 1 = .ok (.invokevirtual 78, 3) := by decide +kernel
theorem dX1_distanceTo_4 : decode cX1_distanceTo 4 = .ok (.istore_n 2, 1) := by decide +kernel
theorem dX1_distanceTo_5 : decode cX1_distanceTo 5 = .ok (.iconst 0, 1) := by decide +kernel
theorem dX1_distanceTo_6 : decode cX1_distanceTo 6 = .ok (.istore_n 3, 1) := by decide +kernel
theorem dX1_distanceTo_7 : decode cX1_distanceTo 7 = .ok (.iload_n 3, 1) := by decide +kernel
theorem dX1_distanceTo_8 : decode cX1_distanceTo 8 = .ok (.bipush 24, 2) := by decide +kernel
theorem dX1_distanceTo_10 : decode cX1_distanceTo 10 = .ok (.if_icmp .ge 28, 3) := by decide +kernel
theorem dX1_distanceTo_13 : decode cX1_distanceTo 13 = .ok (.iload_n 2, 1) := by decide +kernel
theorem dX1_distanceTo_14 : decode cX1_distanceTo 14 = .ok (.iload_n 1, 1) := by decide +kernel
theorem dX1_distanceTo_15 : decode cX1_distanceTo 15 = .ok (.invokestatic 38, 3) := by decide +kernel
theorem dX1_distanceTo_18 : decode cX1_distanceTo 18 = .ok (.iand, 1) := by decide +kernel
theorem dX1_distanceTo_19 : decode cX1_distanceTo 19 = .ok (.ifCond .eq 5, 3) := by decide +kernel
theorem dX1_distanceTo_22 : decode cX1_distanceTo 22 = .ok (.iload_n 3, 1) := by decide +kernel
theorem dX1_distanceTo_23 : decode cX1_distanceTo 23 = .ok (.ireturn, 1) := by decide +kernel
theorem dX1_distanceTo_24 : decode cX1_distanceTo 24 = .ok (.iload_n 2, 1) := by decide +kernel
theorem dX1_distanceTo_25 : decode cX1_distanceTo 25 = .ok (.aload_n 0, 1) := by decide +kernel
theorem dX1_distanceTo_26 : decode cX1_distanceTo 26 = .ok (.iload_n 2, 1) := by decide +kernel
theorem dX1_distanceTo_27 : decode cX1_distanceTo 27 = .ok (.invokevirtual 75, 3) := by decide +kernel
theorem dX1_distanceTo_30 : decode cX1_distanceTo 30 = .ok (.ior, 1) := by decide +kernel
theorem dX1_distanceTo_31 : decode cX1_distanceTo 31 = .ok (.istore_n 2, 1) := by decide +kernel
theorem dX1_distanceTo_32 : decode cX1_distanceTo 32 = .ok (.iinc 3 1, 3) := by decide +kernel
theorem dX1_distanceTo_35 : decode cX1_distanceTo 35 = .ok (.goto (-28), 3) := by decide +kernel
theorem dX1_distanceTo_38 : decode cX1_distanceTo 38 = .ok (.iconst (-1), 1) := by decide +kernel
theorem dX1_distanceTo_39 : decode cX1_distanceTo 39 = .ok (.ireturn, 1) := by decide +kernel
theorem dX4_isThere_0 : decode cX4_isThere 0 = .ok (.aload_n 0, 1) := by decide +kernel
theorem dX4_isThere_1 : decode cX4_isThere 1 = .ok (.getfield 9, 3) := by decide +kernel
theorem dX4_isThere_4 : decode cX4_isThere 4 = .ok (.ifCond .eq 7, 3) := by decide +kernel
theorem dX4_isThere_7 : decode cX4_isThere 7 = .ok (.iconst 1, 1) := by decide +kernel
theorem dX4_isThere_8 : decode cX4_isThere 8 = .ok (.goto 4, 3) := by decide +kernel
theorem dX4_isThere_11 : decode cX4_isThere 11 = .ok (.iconst 0, 1) := by decide +kernel
theorem dX4_isThere_12 : decode cX4_isThere 12 = .ok (.ireturn, 1) := by decide +kernel
theorem dX4_needsCare_0 : decode cX4_needsCare 0 = .ok (.aload_n 0, 1) := by decide +kernel
theorem dX4_needsCare_1 : decode cX4_needsCare 1 = .ok (.getfield 9, 3) := by decide +kernel
theorem dX4_needsCare_4 : decode cX4_needsCare 4 = .ok (.iconst 1, 1) := by decide +kernel
theorem dX4_needsCare_5 : decode cX4_needsCare 5 = .ok (.if_icmp .eq 11, 3) := by decide +kernel
theorem dX4_needsCare_8 : decode cX4_needsCare 8 = .ok (.aload_n 0, 1) := by decide +kernel
theorem dX4_needsCare_9 : decode cX4_needsCare 9 = .ok (.getfield 9, 3) := by decide +kernel
theorem dX4_needsCare_12 : decode cX4_needsCare 12 = .ok (.iconst 2, 1) := by decide +kernel
theorem dX4_needsCare_13 : decode cX4_needsCare 13 = .ok (.if_icmp .ne 7, 3) := by decide +kernel
theorem dX4_needsCare_16 : decode cX4_needsCare 16 = .ok (.iconst 1, 1) := by decide +kernel
theorem dX4_needsCare_17 : decode cX4_needsCare 17 = .ok (.goto 4, 3) := by decide +kernel
theorem dX4_needsCare_20 : decode cX4_needsCare 20 = .ok (.iconst 0, 1) := by decide +kernel
theorem dX4_needsCare_21 : decode cX4_needsCare 21 = .ok (.ireturn, 1) := by decide +kernel
theorem dX4_isBlack_0 : decode cX4_isBlack 0 = .ok (.aload_n 0, 1) := by decide +kernel
theorem dX4_isBlack_1 : decode cX4_isBlack 1 = .ok (.getfield 22, 3) := by decide +kernel
theorem dX4_isBlack_4 : decode cX4_isBlack 4 = .ok (.iload_n 1, 1) := by decide +kernel
theorem dX4_isBlack_5 : decode cX4_isBlack 5 = .ok (.invokestatic 25, 3) := by decide +kernel
theorem dX4_isBlack_8 : decode cX4_isBlack 8 = .ok (.iand, 1) := by decide +kernel
theorem dX4_isBlack_9 : decode cX4_isBlack 9 = .ok (.ifCond .eq 7, 3) := by decide +kernel
theorem dX4_isBlack_12 : decode cX4_isBlack 12 = .ok (.iconst 1, 1) := by decide +kernel
theorem dX4_isBlack_13 : decode cX4_isBlack 13 = .ok (.goto 4, 3) := by decide +kernel
theorem dX4_isBlack_16 : decode cX4_isBlack 16 = .ok (.iconst 0, 1) := by decide +kernel
theorem dX4_isBlack_17 : decode cX4_isBlack 17 = .ok (.ireturn, 1) := by decide +kernel
theorem dX4_colourOf_0 : decode cX4_colourOf 0 = .ok (.aload_n 0, 1) := by decide +kernel
theorem dX4_colourOf_1 : decode cX4_colourOf 1 = .ok (.iload_n 1, 1) := by decide +kernel
theorem dX4_colourOf_2 : decode cX4_colourOf 2 = .ok (.invokevirtual 29, 3) := by decide +kernel
theorem dX4_colourOf_5 : decode cX4_colourOf 5 = .ok (.ifCond .eq 5, 3) := by decide +kernel
theorem dX4_colourOf_8 : decode cX4_colourOf 8 = .ok (.iconst 2, 1) := by decide +kernel
theorem dX4_colourOf_9 : decode cX4_colourOf 9 = .ok (.ireturn, 1) := by decide +kernel
theorem dX4_colourOf_10 : decode cX4_colourOf 10 = .ok (.aload_n 0, 1) := by decide +kernel
theorem dX4_colourOf_11 : decode cX4_colourOf 11 = .ok (.getfield 33, 3) := by decide +kernel
theorem dX4_colourOf_14 : decode cX4_colourOf 14 = .ok (.iload_n 1, 1) := by decide +kernel
theorem dX4_colourOf_15 : decode cX4_colourOf 15 = .ok (.invokestatic 25, 3) := by decide +kernel
theorem dX4_colourOf_18 : decode cX4_colourOf 18 = .ok (.iand, 1) := by decide +kernel
theorem dX4_colourOf_19 : decode cX4_colourOf 19 = .ok (.ifCond .eq 7, 3) := by decide +kernel
theorem dX4_colourOf_22 : decode cX4_colourOf 22 = .ok (.iconst 1, 1) := by decide +kernel
theorem dX4_colourOf_23 : decode cX4_colourOf 23 = .ok (.goto 4, 3) := by decide +kernel
theorem dX4_colourOf_26 : decode cX4_colourOf 26 = .ok (.iconst 0, 1) := by decide +kernel
theorem dX4_colourOf_27 : decode cX4_colourOf 27 = .ok (.ireturn, 1) := by decide +kernel
theorem dX4_shade_0 : decode cX4_shade 0 = .ok (.iload_n 1, 1) := by decide +kernel
theorem dX4_shade_1 : decode cX4_shade 1 = .ok (.invokestatic 25, 3) := by decide +kernel
theorem dX4_shade_4 : decode cX4_shade 4 = .ok (.istore_n 2, 1) := by decide +kernel
theorem dX4_shade_5 : decode cX4_shade 5 = .ok (.iload_n 2, 1) := by decide +kernel
theorem dX4_shade_6 : decode cX4_shade 6 = .ok (.ifCond .eq 17, 3) := by decide +kernel
theorem dX4_shade_9 : decode cX4_shade 9 = .ok (.aload_n 0, 1) := by decide +kernel
theorem dX4_shade_10 : decode cX4_shade 10 = .ok (.getfield 33, 3) := by decide +kernel
theorem dX4_shade_13 : decode cX4_shade 13 = .ok (.aload_n 0, 1) := by decide +kernel
theorem dX4_shade_14 : decode cX4_shade 14 = .ok (.getfield 22, 3) := by decide +kernel
theorem dX4_shade_17 : decode cX4_shade 17 = .ok (.ior, 1) := by decide +kernel
theorem dX4_shade_18 : decode cX4_shade 18 = .ok (.iload_n 2, 1) := by decide +kernel
theorem dX4_shade_19 : decode cX4_shade 19 = .ok (.iand, 1) := by decide +kernel
theorem dX4_shade_20 : decode cX4_shade 20 = .ok (.ifCond .eq 4, 3) := by decide +kernel
theorem dX4_shade_23 : decode cX4_shade 23 = .ok (.return_, 1) := by decide +kernel
theorem dX4_shade_24 : decode cX4_shade 24 = .ok (.aload_n 0, 1) := by decide +kernel
theorem dX4_shade_25 : decode cX4_shade 25 = .ok (.dup, 1) := by decide +kernel
theorem dX4_shade_26 : decode cX4_shade 26 = .ok (.getfield 33, 3) := by decide +kernel
theorem dX4_shade_29 : decode cX4_shade 29 = .ok (.iload_n 2, 1) := by decide +kernel
theorem dX4_shade_30 : decode cX4_shade 30 = .ok (.ior, 1) := by decide +kernel
theorem dX4_shade_31 : decode cX4_shade 31 = .ok (.putfield 33, 3) := by decide +kernel
theorem dX4_shade_34 : decode cX4_shade 34 = .ok (.aload_n 0, 1) := by decide +kernel
theorem dX4_shade_35 : decode cX4_shade 35 = .ok (.getfield 18, 3) := by decide +kernel
theorem dX4_shade_38 : decode cX4_shade 38 = .ok (.iload_n 1, 1) := by decide +kernel
theorem dX4_shade_39 : decode cX4_shade 39 = .ok (.invokevirtual 41, 3) := by decide +kernel
theorem dX4_shade_42 : decode cX4_shade 42 = .ok (.return_, 1) := by decide +kernel
theorem dX4_colourNewOne_0 : decode cX4_colourNewOne 0 = .ok (.aload_n 0, 1) := by decide +kernel
theorem dX4_colourNewOne_1 : decode cX4_colourNewOne 1 = .ok (.invokevirtual 45, 3) := by decide +kernel
theorem dX4_colourNewOne_4 : decode cX4_colourNewOne 4 = .ok (.ifCond .ne 19, 3) := by decide +kernel
theorem dX4_colourNewOne_7 : decode cX4_colourNewOne 7 = .ok (.aload_n 0, 1) := by decide +kernel
theorem dX4_colourNewOne_8 : decode cX4_colourNewOne 8 = .ok (.getfield 9, 3) := by decide +kernel
theorem dX4_colourNewOne_11 : decode cX4_colourNewOne 11 = .ok (.iconst 3, 1) := by decide +kernel
theorem dX4_colourNewOne_12 : decode cX4_colourNewOne 12 = .ok (.if_icmp .ne 24, 3) := by decide +kernel
theorem dX4_colourNewOne_15 : decode cX4_colourNewOne 15 = .ok (.iload_n 1, 1) := by decide +kernel
theorem dX4_colourNewOne_16 : decode cX4_colourNewOne 16 = .ok (.aload_n 0, 1) := by decide +kernel
theorem dX4_colourNewOne_17 : decode cX4_colourNewOne 17 = .ok (.getfield 49, 3) := by decide +kernel
theorem dX4_colourNewOne_20 : decode cX4_colourNewOne 20 = .ok (.if_icmp .lt 16, 3) := by decide +kernel
theorem dX4_colourNewOne_23 : decode cX4_colourNewOne 23 = .ok (.aload_n 0, 1) := by decide +kernel
theorem dX4_colourNewOne_24 : decode cX4_colourNewOne 24 = .ok (.dup, 1) := by decide +kernel
theorem dX4_colourNewOne_25 : decode cX4_colourNewOne 25 = .ok (.getfield 22, 3) := by decide +kernel
theorem dX4_colourNewOne_28 : decode cX4_colourNewOne 28 = .ok (.iload_n 1, 1) := by decide +kernel
theorem dX4_colourNewOne_29 : decode cX4_colourNewOne 29 = .ok (.invokestatic 25, 3) := by decide +kernel
theorem dX4_colourNewOne_32 : decode cX4_colourNewOne 32 = .ok (.ior, 1) := by decide +kernel
theorem dX4_colourNewOne_33 : decode cX4_colourNewOne 33 = .ok (.putfield 22, 3) := by decide +kernel
theorem dX4_colourNewOne_36 : decode cX4_colourNewOne 36 = .ok (.return_, 1) := by decide +kernel
theorem dX4_whiteOnes_0 : decode cX4_whiteOnes 0 = .ok (.aload_n 1, 1) := by decide +kernel
theorem dX4_whiteOnes_1 : decode cX4_whiteOnes 1 = .ok (.getfield 36, 3) := by decide +kernel
theorem dX4_whiteOnes_4 : decode cX4_whiteOnes 4 = .ok (.aload_n 0, 1) := by decide +kernel
theorem dX4_whiteOnes_5 : decode cX4_whiteOnes 5 = .ok (.getfield 33, 3) := by decide +kernel
theorem dX4_whiteOnes_8 : decode cX4_whiteOnes 8 = .ok (.aload_n 0, 1) := by decide +kernel
theorem dX4_whiteOnes_9 : decode cX4_whiteOnes 9 = .ok (.getfield 22, 3) := by decide +kernel
theorem dX4_whiteOnes_12 : decode cX4_whiteOnes 12 = .ok (.ior, 1) := by decide +kernel
theorem dX4_whiteOnes_13 : decode cX4_whiteOnes 13 = .ok (.iconst (-1), 1) := by decide +kernel
theorem dX4_whiteOnes_14 : decode cX4_whiteOnes 14 = .ok (.ixor, 1) := by decide +kernel
theorem dX4_whiteOnes_15 : decode cX4_whiteOnes 15 = .ok (.iand, 1) := by decide +kernel
theorem dX4_whiteOnes_16 : decode cX4_whiteOnes 16 = .ok (.ireturn, 1) := by decide +kernel
theorem dX4_open_0 : decode cX4_open 0 = .ok (.aload_n 0, 1) := by decide +kernel
theorem dX4_open_1 : decode cX4_open 1 = .ok (.iconst 1, 1) := by decide +kernel
theorem dX4_open_2 : decode cX4_open 2 = .ok (.putfield 9, 3) := by decide +kernel
theorem dX4_open_5 : decode cX4_open 5 = .ok (.aload_n 0, 1) := by decide +kernel
theorem dX4_open_6 : decode cX4_open 6 = .ok (.dup, 1) := by decide +kernel
theorem dX4_open_7 : decode cX4_open 7 = .ok (.getfield 52, 3) := by decide +kernel
theorem dX4_open_10 : decode cX4_open 10 = .ok (.iconst 1, 1) := by decide +kernel
theorem dX4_open_11 : decode cX4_open 11 = .ok (.iadd, 1) := by decide +kernel
theorem dX4_open_12 : decode cX4_open 12 = .ok (.putfield 52, 3) := by decide +kernel
theorem dX4_open_15 : decode cX4_open 15 = .ok (.aload_n 0, 1) := by decide +kernel
theorem dX4_open_16 : decode cX4_open 16 = .ok (.iconst 0, 1) := by decide +kernel
theorem dX4_open_17 : decode cX4_open 17 = .ok (.putfield 55, 3) := by decide +kernel
theorem dX4_open_20 : decode cX4_open 20 = .ok (.aload_n 0, 1) := by decide +kernel
theorem dX4_open_21 : decode cX4_open 21 = .ok (.iconst 0, 1) := by decide +kernel
theorem dX4_open_22 : decode cX4_open 22 = .ok (.putfield 58, 3) := by decide +kernel
theorem dX4_open_25 : decode cX4_open 25 = .ok (.iconst 0, 1) := by decide +kernel
theorem dX4_open_26 : decode cX4_open 26 = .ok (.istore_n 2, 1) := by decide +kernel
theorem dX4_open_27 : decode cX4_open 27 = .ok (.iload_n 2, 1) := by decide +kernel
theorem dX4_open_28 : decode cX4_open 28 = .ok (.iconst 4, 1) := by decide +kernel
theorem dX4_open_29 : decode cX4_open 29 = .ok (.if_icmp .ge 18, 3) := by decide +kernel
theorem dX4_open_32 : decode cX4_open 32 = .ok (.aload_n 0, 1) := by decide +kernel
theorem dX4_open_33 : decode cX4_open 33 = .ok (.aload_n 1, 1) := by decide +kernel
theorem dX4_open_34 : decode cX4_open 34 = .ok (.iload_n 2, 1) := by decide +kernel
theorem dX4_open_35 : decode cX4_open 35 = .ok (.invokevirtual 61, 3) := by decide +kernel
theorem dX4_open_38 : decode cX4_open 38 = .ok (.invokevirtual 64, 3) := by decide +kernel
theorem dX4_open_41 : decode cX4_open 41 = .ok (.iinc 2 1, 3) := by decide +kernel
theorem dX4_open_44 : decode cX4_open 44 = .ok (.goto (-17), 3) := by decide +kernel
theorem dX4_open_47 : decode cX4_open 47 = .ok (.iconst 0, 1) := by decide +kernel
theorem dX4_open_48 : decode cX4_open 48 = .ok (.istore_n 2, 1) := by decide +kernel
theorem dX4_open_49 : decode cX4_open 49 = .ok (.iload_n 2, 1) := by decide +kernel
theorem dX4_open_50 : decode cX4_open 50 = .ok (.aload_n 1, 1) := by decide +kernel
theorem dX4_open_51 : decode cX4_open 51 = .ok (.getfield 67, 3) := by decide +kernel
theorem dX4_open_54 : decode cX4_open 54 = .ok (.getfield 70, 3) := by decide +kernel
theorem dX4_open_57 : decode cX4_open 57 = .ok (.if_icmp .ge 21, 3) := by decide +kernel
theorem dX4_open_60 : decode cX4_open 60 = .ok (.aload_n 0, 1) := by decide +kernel
theorem dX4_open_61 : decode cX4_open 61 = .ok (.aload_n 1, 1) := by decide +kernel
theorem dX4_open_62 : decode cX4_open 62 = .ok (.getfield 67, 3) := by decide +kernel
theorem dX4_open_65 : decode cX4_open 65 = .ok (.iload_n 2, 1) := by decide +kernel
theorem dX4_open_66 : decode cX4_open 66 = .ok (.invokevirtual 73, 3) := by decide +kernel
theorem dX4_open_69 : decode cX4_open 69 = .ok (.invokevirtual 64, 3) := by decide +kernel
theorem dX4_open_72 : decode cX4_open 72 = .ok (.iinc 2 1, 3) := by decide +kernel
theorem dX4_open_75 : decode cX4_open 75 = .ok (.goto (-26), 3) := by decide +kernel
theorem dX4_open_78 : decode cX4_open 78 = .ok (.return_, 1) := by decide +kernel
theorem dX4_findToFinish_0 : decode cX4_findToFinish 0 = .ok (.aload_n 0, 1) := by decide +kernel
theorem dX4_findToFinish_1 : decode cX4_findToFinish 1 = .ok (.aload_n 1, 1) := by decide +kernel
theorem dX4_findToFinish_2 : decode cX4_findToFinish 2 = .ok (.invokevirtual 83, 3) := by decide +kernel
theorem dX4_findToFinish_5 : decode cX4_findToFinish 5 = .ok (.aload_n 1, 1) := by decide +kernel
theorem dX4_findToFinish_6 : decode cX4_findToFinish 6 = .ok (.getfield 101, 3) := by decide +kernel
theorem dX4_findToFinish_9 : decode cX4_findToFinish 9 = .ok (.iand, 1) := by decide +kernel
theorem dX4_findToFinish_10 : decode cX4_findToFinish 10 = .ok (.iconst 0, 1) := by decide +kernel
theorem dX4_findToFinish_11 : decode cX4_findToFinish 11 = .ok (.invokestatic 104, 3) := by decide +kernel
theorem dX4_findToFinish_14 : decode cX4_findToFinish 14 = .ok (.istore_n 2, 1) := by decide +kernel
theorem dX4_findToFinish_15 : decode cX4_findToFinish 15 = .ok (.iload_n 2, 1) := by decide +kernel
theorem dX4_findToFinish_16 : decode cX4_findToFinish 16 = .ok (.iconst (-1), 1) := by decide +kernel
theorem dX4_findToFinish_17 : decode cX4_findToFinish 17 = .ok (.if_icmp .ne 25, 3) := by decide +kernel
theorem dX4_findToFinish_20 : decode cX4_findToFinish 20 = .ok (.aload_n 1, 1) := by decide +kernel
theorem dX4_findToFinish_21 : decode cX4_findToFinish 21 = .ok (.aload_n 0, 1) := by decide +kernel
theorem dX4_findToFinish_22 : decode cX4_findToFinish 22 = .ok (.aload_n 1, 1) := by decide +kernel
theorem dX4_findToFinish_23 : decode cX4_findToFinish 23 = .ok (.invokevirtual 83, 3) := by decide +kernel
theorem dX4_findToFinish_26 : decode cX4_findToFinish 26 = .ok (.invokevirtual 87, 3) := by decide +kernel
theorem dX4_findToFinish_29 : decode cX4_findToFinish 29 = .ok (.aload_n 0, 1) := by decide +kernel
theorem dX4_findToFinish_30 : decode cX4_findToFinish 30 = .ok (.iconst 3, 1) := by decide +kernel
theorem dX4_findToFinish_31 : decode cX4_findToFinish 31 = .ok (.putfield 9, 3) := by decide +kernel
theorem dX4_findToFinish_34 : decode cX4_findToFinish 34 = .ok (.aload_n 0, 1) := by decide +kernel
theorem dX4_findToFinish_35 : decode cX4_findToFinish 35 = .ok (.iconst 0, 1) := by decide +kernel
theorem dX4_findToFinish_36 : decode cX4_findToFinish 36 = .ok (.putfield 49, 3) := by decide +kernel
theorem dX4_findToFinish_39 : decode cX4_findToFinish 39 = .ok (.goto 31, 3) := by decide +kernel
theorem dX4_findToFinish_42 : decode cX4_findToFinish 42 = .ok (.aload_n 1, 1) := by decide +kernel
theorem dX4_findToFinish_43 : decode cX4_findToFinish 43 = .ok (.dup, 1) := by decide +kernel
theorem dX4_findToFinish_44 : decode cX4_findToFinish 44 = .ok (.getfield 101, 3) := by decide +kernel
theorem dX4_findToFinish_47 : decode cX4_findToFinish 47 = .ok (.iload_n 2, 1) := by decide +kernel
theorem dX4_findToFinish_48 : decode cX4_findToFinish 48 = .ok (.invokestatic 25, 3) := by decide +kernel
theorem dX4_findToFinish_51 : decode cX4_findToFinish 51 = .ok (.iconst (-1), 1) := by decide +kernel
theorem dX4_findToFinish_52 : decode cX4_findToFinish 52 = .ok (.ixor, 1) := by decide +kernel
theorem dX4_findToFinish_53 : decode cX4_findToFinish 53 = .ok (.iand, 1) := by decide +kernel
theorem dX4_findToFinish_54 : decode cX4_findToFinish 54 = .ok (.putfield 101, 3) := by decide +kernel
theorem dX4_findToFinish_57 : decode cX4_findToFinish 57 = .ok (.aload_n 1, 1) := by decide +kernel
theorem dX4_findToFinish_58 : decode cX4_findToFinish 58 = .ok (.getfield 67, 3) := by decide +kernel
theorem dX4_findToFinish_61 : decode cX4_findToFinish 61 = .ok (.iload_n 2, 1) := by decide +kernel
theorem dX4_findToFinish_62 : decode cX4_findToFinish 62 = .ok (.invokevirtual 41, 3) := by decide +kernel
theorem dX4_findToFinish_65 : decode cX4_findToFinish 65 = .ok (.aload_n 0, 1) := by decide +kernel
theorem dX4_findToFinish_66 : decode cX4_findToFinish 66 = .ok (.iload_n 2, 1) := by decide +kernel
theorem dX4_findToFinish_67 : decode cX4_findToFinish 67 = .ok (.invokevirtual 64, 3) := by decide +kernel
theorem dX4_findToFinish_70 : decode cX4_findToFinish 70 = .ok (.return_, 1) := by decide +kernel
theorem dX4_markFirst_0 : decode cX4_markFirst 0 = .ok (.aload_n 0, 1) := by decide +kernel
theorem dX4_markFirst_1 : decode cX4_markFirst 1 = .ok (.getfield 18, 3) := by decide +kernel
theorem dX4_markFirst_4 : decode cX4_markFirst 4 = .ok (.invokevirtual 93, 3) := by decide +kernel
theorem dX4_markFirst_7 : decode cX4_markFirst 7 = .ok (.istore_n 2, 1) := by decide +kernel
theorem dX4_markFirst_8 : decode cX4_markFirst 8 = .ok (.iconst 0, 1) := by decide +kernel
theorem dX4_markFirst_9 : decode cX4_markFirst 9 = .ok (.istore_n 3, 1) := by decide +kernel
theorem dX4_markFirst_10 : decode cX4_markFirst 10 = .ok (.iload_n 3, 1) := by decide +kernel
theorem dX4_markFirst_11 : decode cX4_markFirst 11 = .ok (.iconst 3, 1) := by decide +kernel
theorem dX4_markFirst_12 : decode cX4_markFirst 12 = .ok (.if_icmp .ge 19, 3) := by decide +kernel
theorem dX4_markFirst_15 : decode cX4_markFirst 15 = .ok (.aload_n 0, 1) := by decide +kernel
theorem dX4_markFirst_16 : decode cX4_markFirst 16 = .ok (.aload_n 1, 1) := by decide +kernel
theorem dX4_markFirst_17 : decode cX4_markFirst 17 = .ok (.iload_n 2, 1) := by decide +kernel
theorem dX4_markFirst_18 : decode cX4_markFirst 18 = .ok (.iload_n 3, 1) := by decide +kernel
theorem dX4_markFirst_19 : decode cX4_markFirst 19 = .ok (.invokevirtual 97, 3) := by decide +kernel
theorem dX4_markFirst_22 : decode cX4_markFirst 22 = .ok (.invokevirtual 64, 3) := by decide +kernel
theorem dX4_markFirst_25 : decode cX4_markFirst 25 = .ok (.iinc 3 1, 3) := by decide +kernel
theorem dX4_markFirst_28 : decode cX4_markFirst 28 = .ok (.goto (-18), 3) := by decide +kernel
theorem dX4_markFirst_31 : decode cX4_markFirst 31 = .ok (.aload_n 0, 1) := by decide +kernel
theorem dX4_markFirst_32 : decode cX4_markFirst 32 = .ok (.dup, 1) := by decide +kernel
theorem dX4_markFirst_33 : decode cX4_markFirst 33 = .ok (.getfield 33, 3) := by decide +kernel
theorem dX4_markFirst_36 : decode cX4_markFirst 36 = .ok (.iload_n 2, 1) := by decide +kernel
theorem dX4_markFirst_37 : decode cX4_markFirst 37 = .ok (.invokestatic 25, 3) := by decide +kernel
theorem dX4_markFirst_40 : decode cX4_markFirst 40 = .ok (.iconst (-1), 1) := by decide +kernel
theorem dX4_markFirst_41 : decode cX4_markFirst 41 = .ok (.ixor, 1) := by decide +kernel
theorem dX4_markFirst_42 : decode cX4_markFirst 42 = .ok (.iand, 1) := by decide +kernel
theorem dX4_markFirst_43 : decode cX4_markFirst 43 = .ok (.putfield 33, 3) := by decide +kernel
theorem dX4_markFirst_46 : decode cX4_markFirst 46 = .ok (.aload_n 0, 1) := by decide +kernel
theorem dX4_markFirst_47 : decode cX4_markFirst 47 = .ok (.dup, 1) := by decide +kernel
theorem dX4_markFirst_48 : decode cX4_markFirst 48 = .ok (.getfield 22, 3) := by decide +kernel
theorem dX4_markFirst_51 : decode cX4_markFirst 51 = .ok (.iload_n 2, 1) := by decide +kernel
theorem dX4_markFirst_52 : decode cX4_markFirst 52 = .ok (.invokestatic 25, 3) := by decide +kernel
theorem dX4_markFirst_55 : decode cX4_markFirst 55 = .ok (.ior, 1) := by decide +kernel
theorem dX4_markFirst_56 : decode cX4_markFirst 56 = .ok (.putfield 22, 3) := by decide +kernel
theorem dX4_markFirst_59 : decode cX4_markFirst 59 = .ok (.return_, 1) := by decide +kernel
theorem dX4_sweep_0 : decode cX4_sweep 0 = .ok (.aload_n 1, 1) := by decide +kernel
theorem dX4_sweep_1 : decode cX4_sweep 1 = .ok (.getfield 36, 3) := by decide +kernel
theorem dX4_sweep_4 : decode cX4_sweep 4 = .ok (.aload_n 0, 1) := by decide +kernel
theorem dX4_sweep_5 : decode cX4_sweep 5 = .ok (.getfield 49, 3) := by decide +kernel
theorem dX4_sweep_8 : decode cX4_sweep 8 = .ok (.invokestatic 104, 3) := by decide +kernel
theorem dX4_sweep_11 : decode cX4_sweep 11 = .ok (.istore_n 2, 1) := by decide +kernel
theorem dX4_sweep_12 : decode cX4_sweep 12 = .ok (.iload_n 2, 1) := by decide +kernel
theorem dX4_sweep_13 : decode cX4_sweep 13 = .ok (.iconst (-1), 1) := by decide +kernel
theorem dX4_sweep_14 : decode cX4_sweep 14 = .ok (.if_icmp .ne 9, 3) := by decide +kernel
theorem dX4_sweep_17 : decode cX4_sweep 17 = .ok (.aload_n 0, 1) := by decide +kernel
theorem dX4_sweep_18 : decode cX4_sweep 18 = .ok (.iconst 0, 1) := by decide +kernel
theorem dX4_sweep_19 : decode cX4_sweep 19 = .ok (.putfield 9, 3) := by decide +kernel
theorem dX4_sweep_22 : decode cX4_sweep 22 = .ok (.return_, 1) := by decide +kernel
theorem dX4_sweep_23 : decode cX4_sweep 23 = .ok (.iload_n 2, 1) := by decide +kernel
theorem dX4_sweep_24 : decode cX4_sweep 24 = .ok (.invokestatic 25, 3) := by decide +kernel
theorem dX4_sweep_27 : decode cX4_sweep 27 = .ok (.istore_n 3, 1) := by decide +kernel
theorem dX4_sweep_28 : decode cX4_sweep 28 = .ok (.aload_n 0, 1) := by decide +kernel
theorem dX4_sweep_29 : decode cX4_sweep 29 = .ok (.aload_n 1, 1) := by decide +kernel
theorem dX4_sweep_30 : decode cX4_sweep 30 = .ok (.invokevirtual 83, 3) := by decide +kernel
theorem dX4_sweep_33 : decode cX4_sweep 33 = .ok (.iload_n 3, 1) := by decide +kernel
theorem dX4_sweep_34 : decode cX4_sweep 34 = .ok (.iand, 1) := by decide +kernel
theorem dX4_sweep_35 : decode cX4_sweep 35 = .ok (.ifCond .eq 31, 3) := by decide +kernel
theorem dX4_sweep_38 : decode cX4_sweep 38 = .ok (.aload_n 1, 1) := by decide +kernel
theorem dX4_sweep_39 : decode cX4_sweep 39 = .ok (.iload_n 2, 1) := by decide +kernel
theorem dX4_sweep_40 : decode cX4_sweep 40 = .ok (.invokevirtual 107, 3) := by decide +kernel
theorem dX4_sweep_43 : decode cX4_sweep 43 = .ok (.aload_n 0, 1) := by decide +kernel
theorem dX4_sweep_44 : decode cX4_sweep 44 = .ok (.dup, 1) := by decide +kernel
theorem dX4_sweep_45 : decode cX4_sweep 45 = .ok (.getfield 58, 3) := by decide +kernel
theorem dX4_sweep_48 : decode cX4_sweep 48 = .ok (.iload_n 3, 1) := by decide +kernel
theorem dX4_sweep_49 : decode cX4_sweep 49 = .ok (.ior, 1) := by decide +kernel
theorem dX4_sweep_50 : decode cX4_sweep 50 = .ok (.putfield 58, 3) := by decide +kernel
theorem dX4_sweep_53 : decode cX4_sweep 53 = .ok (.aload_n 0, 1) := by decide +kernel
theorem dX4_sweep_54 : decode cX4_sweep 54 = .ok (.dup, 1) := by decide +kernel
theorem dX4_sweep_55 : decode cX4_sweep 55 = .ok (.getfield 110, 3) := by decide +kernel
theorem dX4_sweep_58 : decode cX4_sweep 58 = .ok (.iconst 1, 1) := by decide +kernel
theorem dX4_sweep_59 : decode cX4_sweep 59 = .ok (.iadd, 1) := by decide +kernel
theorem dX4_sweep_60 : decode cX4_sweep 60 = .ok (.putfield 110, 3) := by decide +kernel
theorem dX4_sweep_63 : decode cX4_sweep 63 = .ok (.goto 15, 3) := by decide +kernel
theorem dX4_sweep_66 : decode cX4_sweep 66 = .ok (.aload_n 0, 1) := by decide +kernel
theorem dX4_sweep_67 : decode cX4_sweep 67 = .ok (.dup, 1) := by decide +kernel
theorem dX4_sweep_68 : decode cX4_sweep 68 = .ok (.getfield 22, 3) := by decide +kernel
theorem dX4_sweep_71 : decode cX4_sweep 71 = .ok (.iload_n 3, 1) := by decide +kernel
theorem dX4_sweep_72 : decode cX4_sweep 72 = .ok (.iconst (-1), 1) := by decide +kernel
theorem dX4_sweep_73 : decode cX4_sweep 73 = .ok (.ixor, 1) := by decide +kernel
theorem dX4_sweep_74 : decode cX4_sweep 74 = .ok (.iand, 1) := by decide +kernel
theorem dX4_sweep_75 : decode cX4_sweep 75 = .ok (.putfield 22, 3) := by decide +kernel
theorem dX4_sweep_78 : decode cX4_sweep 78 = .ok (.aload_n 0, 1) := by decide +kernel
theorem dX4_sweep_79 : decode cX4_sweep 79 = .ok (.iload_n 2, 1) := by decide +kernel
theorem dX4_sweep_80 : decode cX4_sweep 80 = .ok (.iconst 1, 1) := by decide +kernel
theorem dX4_sweep_81 : decode cX4_sweep 81 = .ok (.iadd, 1) := by decide +kernel
theorem dX4_sweep_82 : decode cX4_sweep 82 = .ok (.putfield 49, 3) := by decide +kernel
theorem dX4_sweep_85 : decode cX4_sweep 85 = .ok (.return_, 1) := by decide +kernel
theorem dX4_advance_0 : decode cX4_advance 0 = .ok (.aload_n 0, 1) := by decide +kernel
theorem dX4_advance_1 : decode cX4_advance 1 = .ok (.dup, 1) := by decide +kernel
theorem dX4_advance_2 : decode cX4_advance 2 = .ok (.getfield 55, 3) := by decide +kernel
theorem dX4_advance_5 : decode cX4_advance 5 = .ok (.iconst 1, 1) := by decide +kernel
theorem dX4_advance_6 : decode cX4_advance 6 = .ok (.iadd, 1) := by decide +kernel
theorem dX4_advance_7 : decode cX4_advance 7 = .ok (.putfield 55, 3) := by decide +kernel
theorem dX4_advance_10 : decode cX4_advance 10 = .ok (.aload_n 0, 1) := by decide +kernel
theorem dX4_advance_11 : decode cX4_advance 11 = .ok (.getfield 9, 3) := by decide +kernel
theorem dX4_advance_14 : decode cX4_advance 14 = .ok (.iconst 3, 1) := by decide +kernel
theorem dX4_advance_15 : decode cX4_advance 15 = .ok (.if_icmp .ne 11, 3) := by decide +kernel
theorem dX4_advance_18 : decode cX4_advance 18 = .ok (.aload_n 0, 1) := by decide +kernel
theorem dX4_advance_19 : decode cX4_advance 19 = .ok (.aload_n 1, 1) := by decide +kernel
theorem dX4_advance_20 : decode cX4_advance 20 = .ok (.invokevirtual 76, 3) := by decide +kernel
theorem dX4_advance_23 : decode cX4_advance 23 = .ok (.goto 51, 3) := by decide +kernel
theorem dX4_advance_26 : decode cX4_advance 26 = .ok (.aload_n 0, 1) := by decide +kernel
theorem dX4_advance_27 : decode cX4_advance 27 = .ok (.getfield 18, 3) := by decide +kernel
theorem dX4_advance_30 : decode cX4_advance 30 = .ok (.getfield 70, 3) := by decide +kernel
theorem dX4_advance_33 : decode cX4_advance 33 = .ok (.ifCond .le 11, 3) := by decide +kernel
theorem dX4_advance_36 : decode cX4_advance 36 = .ok (.aload_n 0, 1) := by decide +kernel
theorem dX4_advance_37 : decode cX4_advance 37 = .ok (.aload_n 1, 1) := by decide +kernel
theorem dX4_advance_38 : decode cX4_advance 38 = .ok (.invokevirtual 80, 3) := by decide +kernel
theorem dX4_advance_41 : decode cX4_advance 41 = .ok (.goto 33, 3) := by decide +kernel
theorem dX4_advance_44 : decode cX4_advance 44 = .ok (.aload_n 0, 1) := by decide +kernel
theorem dX4_advance_45 : decode cX4_advance 45 = .ok (.getfield 9, 3) := by decide +kernel
theorem dX4_advance_48 : decode cX4_advance 48 = .ok (.iconst 1, 1) := by decide +kernel
theorem dX4_advance_49 : decode cX4_advance 49 = .ok (.if_icmp .ne 20, 3) := by decide +kernel
theorem dX4_advance_52 : decode cX4_advance 52 = .ok (.aload_n 1, 1) := by decide +kernel
theorem dX4_advance_53 : decode cX4_advance 53 = .ok (.aload_n 0, 1) := by decide +kernel
theorem dX4_advance_54 : decode cX4_advance 54 = .ok (.aload_n 1, 1) := by decide +kernel
theorem dX4_advance_55 : decode cX4_advance 55 = .ok (.invokevirtual 83, 3) := by decide +kernel
theorem dX4_advance_58 : decode cX4_advance 58 = .ok (.invokevirtual 87, 3) := by decide +kernel
theorem dX4_advance_61 : decode cX4_advance 61 = .ok (.aload_n 0, 1) := by decide +kernel
theorem dX4_advance_62 : decode cX4_advance 62 = .ok (.iconst 2, 1) := by decide +kernel
theorem dX4_advance_63 : decode cX4_advance 63 = .ok (.putfield 9, 3) := by decide +kernel
theorem dX4_advance_66 : decode cX4_advance 66 = .ok (.goto 8, 3) := by decide +kernel
theorem dX4_advance_69 : decode cX4_advance 69 = .ok (.aload_n 0, 1) := by decide +kernel
theorem dX4_advance_70 : decode cX4_advance 70 = .ok (.aload_n 1, 1) := by decide +kernel
theorem dX4_advance_71 : decode cX4_advance 71 = .ok (.invokevirtual 90, 3) := by decide +kernel
theorem dX4_advance_74 : decode cX4_advance 74 = .ok (.return_, 1) := by decide +kernel
theorem dX5_takeCare_0 : decode cX5_takeCare 0 = .ok (.aload_n 0, 1) := by decide +kernel
theorem dX5_takeCare_1 : decode cX5_takeCare 1 = .ok (.getfield 21, 3) := by decide +kernel
theorem dX5_takeCare_4 : decode cX5_takeCare 4 = .ok (.invokevirtual 119, 3) := by decide +kernel
theorem dX5_takeCare_7 : decode cX5_takeCare 7 = .ok (.ifCond .ne 4, 3) := by decide +kernel
theorem dX5_takeCare_10 : decode cX5_takeCare 10 = .ok (.return_, 1) := by decide +kernel
theorem dX5_takeCare_11 : decode cX5_takeCare 11 = .ok (.aload_n 0, 1) := by decide +kernel
theorem dX5_takeCare_12 : decode cX5_takeCare 12 = .ok (.getfield 29, 3) := by decide +kernel
theorem dX5_takeCare_15 : decode cX5_takeCare 15 = .ok (.iconst 1, 1) := by decide +kernel
theorem dX5_takeCare_16 : decode cX5_takeCare 16 = .ok (.if_icmp .ne 18, 3) := by decide +kernel
theorem dX5_takeCare_19 : decode cX5_takeCare 19 = .ok (.iload_n 1, 1) := by decide +kernel
theorem dX5_takeCare_20 : decode cX5_takeCare 20 = .ok (.ifCond .eq 27, 3) := by decide +kernel
theorem dX5_takeCare_23 : decode cX5_takeCare 23 = .ok (.aload_n 0, 1) := by decide +kernel
theorem dX5_takeCare_24 : decode cX5_takeCare 24 = .ok (.getfield 21, 3) := by decide +kernel
theorem dX5_takeCare_27 : decode cX5_takeCare 27 = .ok (.iload_n 3, 1) := by decide +kernel
theorem dX5_takeCare_28 : decode cX5_takeCare 28 = .ok (.invokevirtual 123, 3) := by decide +kernel
theorem dX5_takeCare_31 : decode cX5_takeCare 31 = .ok (.goto 16, 3) := by decide +kernel
theorem dX5_takeCare_34 : decode cX5_takeCare 34 = .ok (.iload_n 2, 1) := by decide +kernel
theorem dX5_takeCare_35 : decode cX5_takeCare 35 = .ok (.iload_n 3, 1) := by decide +kernel
theorem dX5_takeCare_36 : decode cX5_takeCare 36 = .ok (.if_icmp .eq 11, 3) := by decide +kernel
theorem dX5_takeCare_39 : decode cX5_takeCare 39 = .ok (.aload_n 0, 1) := by decide +kernel
theorem dX5_takeCare_40 : decode cX5_takeCare 40 = .ok (.getfield 21, 3) := by decide +kernel
theorem dX5_takeCare_43 : decode cX5_takeCare 43 = .ok (.iload_n 2, 1) := by decide +kernel
theorem dX5_takeCare_44 : decode cX5_takeCare 44 = .ok (.invokevirtual 123, 3) := by decide +kernel
theorem dX5_takeCare_47 : decode cX5_takeCare 47 = .ok (.return_, 1) := by decide +kernel
theorem dX5_referRoot_0 : decode cX5_referRoot 0 = .ok (.iload_n 1, 1) := by decide +kernel
theorem dX5_referRoot_1 : decode cX5_referRoot 1 = .ok (.iconst 4, 1) := by decide +kernel
theorem dX5_referRoot_2 : decode cX5_referRoot 2 = .ok (.invokestatic 33, 3) := by decide +kernel
theorem dX5_referRoot_5 : decode cX5_referRoot 5 = .ok (.ifCond .ne 4, 3) := by decide +kernel
theorem dX5_referRoot_8 : decode cX5_referRoot 8 = .ok (.return_, 1) := by decide +kernel
theorem dX5_referRoot_9 : decode cX5_referRoot 9 = .ok (.aload_n 0, 1) := by decide +kernel
theorem dX5_referRoot_10 : decode cX5_referRoot 10 = .ok (.getfield 12, 3) := by decide +kernel
theorem dX5_referRoot_13 : decode cX5_referRoot 13 = .ok (.getfield 116, 3) := by decide +kernel
theorem dX5_referRoot_16 : decode cX5_referRoot 16 = .ok (.iload_n 1, 1) := by decide +kernel
theorem dX5_referRoot_17 : decode cX5_referRoot 17 = .ok (.iaload, 1) := by decide +kernel
theorem dX5_referRoot_18 : decode cX5_referRoot 18 = .ok (.istore_n 3, 1) := by decide +kernel
theorem dX5_referRoot_19 : decode cX5_referRoot 19 = .ok (.aload_n 0, 1) := by decide +kernel
theorem dX5_referRoot_20 : decode cX5_referRoot 20 = .ok (.getfield 12, 3) := by decide +kernel
theorem dX5_referRoot_23 : decode cX5_referRoot 23 = .ok (.getfield 116, 3) := by decide +kernel
theorem dX5_referRoot_26 : decode cX5_referRoot 26 = .ok (.iload_n 1, 1) := by decide +kernel
theorem dX5_referRoot_27 : decode cX5_referRoot 27 = .ok (.iload_n 2, 1) := by decide +kernel
theorem dX5_referRoot_28 : decode cX5_referRoot 28 = .ok (.iastore, 1) := by decide +kernel
theorem dX5_referRoot_29 : decode cX5_referRoot 29 = .ok (.aload_n 0, 1) := by decide +kernel
theorem dX5_referRoot_30 : decode cX5_referRoot 30 = .ok (.iconst 1, 1) := by decide +kernel
theorem dX5_referRoot_31 : decode cX5_referRoot 31 = .ok (.iload_n 3, 1) := by decide +kernel
theorem dX5_referRoot_32 : decode cX5_referRoot 32 = .ok (.iload_n 2, 1) := by decide +kernel
theorem dX5_referRoot_33 : decode cX5_referRoot 33 = .ok (.invokevirtual 80, 3) := by decide +kernel
theorem dX5_referRoot_36 : decode cX5_referRoot 36 = .ok (.return_, 1) := by decide +kernel
theorem dX5_create_0 : decode cX5_create 0 = .ok (.iload_n 1, 1) := by decide +kernel
theorem dX5_create_1 : decode cX5_create 1 = .ok (.iconst 4, 1) := by decide +kernel
theorem dX5_create_2 : decode cX5_create 2 = .ok (.invokestatic 33, 3) := by decide +kernel
theorem dX5_create_5 : decode cX5_create 5 = .ok (.ifCond .ne 6, 3) := by decide +kernel
theorem dX5_create_8 : decode cX5_create 8 = .ok (.bipush (-11), 2) := by decide +kernel
theorem dX5_create_10 : decode cX5_create 10 = .ok (.ireturn, 1) := by decide +kernel
theorem dX5_create_11 : decode cX5_create 11 = .ok (.aload_n 0, 1) := by decide +kernel
theorem dX5_create_12 : decode cX5_create 12 = .ok (.getfield 12, 3) := by decide +kernel
theorem dX5_create_15 : decode cX5_create 15 = .ok (.invokevirtual 37, 3) := by decide +kernel
theorem dX5_create_18 : decode cX5_create 18 = .ok (.istore_n 2, 1) := by decide +kernel
theorem dX5_create_19 : decode cX5_create 19 = .ok (.iload_n 2, 1) := by decide +kernel
theorem dX5_create_20 : decode cX5_create 20 = .ok (.bipush 24, 2) := by decide +kernel
theorem dX5_create_22 : decode cX5_create 22 = .ok (.invokestatic 33, 3) := by decide +kernel
theorem dX5_create_25 : decode cX5_create 25 = .ok (.ifCond .ne 6, 3) := by decide +kernel
theorem dX5_create_28 : decode cX5_create 28 = .ok (.bipush (-13), 2) := by decide +kernel
theorem dX5_create_30 : decode cX5_create 30 = .ok (.ireturn, 1) := by decide +kernel
theorem dX5_create_31 : decode cX5_create 31 = .ok (.aload_n 0, 1) := by decide +kernel
theorem dX5_create_32 : decode cX5_create 32 = .ok (.dup, 1) := by decide +kernel
theorem dX5_create_33 : decode cX5_create 33 = .ok (.getfield 41, 3) := by decide +kernel
theorem dX5_create_36 : decode cX5_create 36 = .ok (.iconst 1, 1) := by decide +kernel
theorem dX5_create_37 : decode cX5_create 37 = .ok (.iadd, 1) := by decide +kernel
theorem dX5_create_38 : decode cX5_create 38 = .ok (.putfield 41, 3) := by decide +kernel
theorem dX5_create_41 : decode cX5_create 41 = .ok (.aload_n 0, 1) := by decide +kernel
theorem dX5_create_42 : decode cX5_create 42 = .ok (.getfield 25, 3) := by decide +kernel
theorem dX5_create_45 : decode cX5_create 45 = .ok (.iload_n 2, 1) := by decide +kernel
theorem dX5_create_46 : decode cX5_create 46 = .ok (.aload_n 0, 1) := by decide +kernel
theorem dX5_create_47 : decode cX5_create 47 = .ok (.getfield 21, 3) := by decide +kernel
theorem dX5_create_50 : decode cX5_create 50 = .ok (.getfield 44, 3) := by decide +kernel
theorem dX5_create_53 : decode cX5_create 53 = .ok (.iastore, 1) := by decide +kernel
theorem dX5_create_54 : decode cX5_create 54 = .ok (.aload_n 0, 1) := by decide +kernel
theorem dX5_create_55 : decode cX5_create 55 = .ok (.getfield 21, 3) := by decide +kernel
theorem dX5_create_58 : decode cX5_create 58 = .ok (.iload_n 2, 1) := by decide +kernel
theorem dX5_create_59 : decode cX5_create 59 = .ok (.invokevirtual 47, 3) := by decide +kernel
theorem dX5_create_62 : decode cX5_create 62 = .ok (.aload_n 0, 1) := by decide +kernel
theorem dX5_create_63 : decode cX5_create 63 = .ok (.iload_n 1, 1) := by decide +kernel
theorem dX5_create_64 : decode cX5_create 64 = .ok (.iload_n 2, 1) := by decide +kernel
theorem dX5_create_65 : decode cX5_create 65 = .ok (.invokevirtual 51, 3) := by decide +kernel
theorem dX5_create_68 : decode cX5_create 68 = .ok (.iload_n 2, 1) := by decide +kernel
theorem dX5_create_69 : decode cX5_create 69 = .ok (.ireturn, 1) := by decide +kernel
theorem dX5_writeField_0 : decode cX5_writeField 0 = .ok (.aload_n 0, 1) := by decide +kernel
theorem dX5_writeField_1 : decode cX5_writeField 1 = .ok (.getfield 12, 3) := by decide +kernel
theorem dX5_writeField_4 : decode cX5_writeField 4 = .ok (.iload_n 1, 1) := by decide +kernel
theorem dX5_writeField_5 : decode cX5_writeField 5 = .ok (.invokevirtual 55, 3) := by decide +kernel
theorem dX5_writeField_8 : decode cX5_writeField 8 = .ok (.ifCond .eq 22, 3) := by decide +kernel
theorem dX5_writeField_11 : decode cX5_writeField 11 = .ok (.iload_n 2, 1) := by decide +kernel
theorem dX5_writeField_12 : decode cX5_writeField 12 = .ok (.iconst 3, 1) := by decide +kernel
theorem dX5_writeField_13 : decode cX5_writeField 13 = .ok (.invokestatic 33, 3) := by decide +kernel
theorem dX5_writeField_16 : decode cX5_writeField 16 = .ok (.ifCond .eq 14, 3) := by decide +kernel
theorem dX5_writeField_19 : decode cX5_writeField 19 = .ok (.aload_n 0, 1) := by decide +kernel
theorem dX5_writeField_20 : decode cX5_writeField 20 = .ok (.getfield 12, 3) := by decide +kernel
theorem dX5_writeField_23 : decode cX5_writeField 23 = .ok (.iload_n 3, 1) := by decide +kernel
theorem dX5_writeField_24 : decode cX5_writeField 24 = .ok (.invokevirtual 59, 3) := by decide +kernel
theorem dX5_writeField_27 : decode cX5_writeField 27 = .ok (.ifCond .ne 6, 3) := by decide +kernel
theorem dX5_writeField_30 : decode cX5_writeField 30 = .ok (.bipush (-11), 2) := by decide +kernel
theorem dX5_writeField_32 : decode cX5_writeField 32 = .ok (.ireturn, 1) := by decide +kernel
theorem dX5_writeField_33 : decode cX5_writeField 33 = .ok (.iload_n 1, 1) := by decide +kernel
theorem dX5_writeField_34 : decode cX5_writeField 34 = .ok (.invokestatic 62, 3) := by decide +kernel
theorem dX5_writeField_37 : decode cX5_writeField 37 = .ok (.iload_n 3, 1) := by decide +kernel
theorem dX5_writeField_38 : decode cX5_writeField 38 = .ok (.invokestatic 62, 3) := by decide +kernel
theorem dX5_writeField_41 : decode cX5_writeField 41 = .ok (.ior, 1) := by decide +kernel
theorem dX5_writeField_42 : decode cX5_writeField 42 = .ok (.aload_n 0, 1) := by decide +kernel
theorem dX5_writeField_43 : decode cX5_writeField 43 = .ok (.getfield 12, 3) := by decide +kernel
theorem dX5_writeField_46 : decode cX5_writeField 46 = .ok (.invokevirtual 66, 3) := by decide +kernel
theorem dX5_writeField_49 : decode cX5_writeField 49 = .ok (.iconst (-1), 1) := by decide +kernel
theorem dX5_writeField_50 : decode cX5_writeField 50 = .ok (.ixor, 1) := by decide +kernel
theorem dX5_writeField_51 : decode cX5_writeField 51 = .ok (.iand, 1) := by decide +kernel
theorem dX5_writeField_52 : decode cX5_writeField 52 = .ok (.ifCond .eq 6, 3) := by decide +kernel
theorem dX5_writeField_55 : decode cX5_writeField 55 = .ok (.bipush (-12), 2) := by decide +kernel
theorem dX5_writeField_57 : decode cX5_writeField 57 = .ok (.ireturn, 1) := by decide +kernel
theorem dX5_writeField_58 : decode cX5_writeField 58 = .ok (.aload_n 0, 1) := by decide +kernel
theorem dX5_writeField_59 : decode cX5_writeField 59 = .ok (.getfield 12, 3) := by decide +kernel
theorem dX5_writeField_62 : decode cX5_writeField 62 = .ok (.iload_n 1, 1) := by decide +kernel
theorem dX5_writeField_63 : decode cX5_writeField 63 = .ok (.iload_n 2, 1) := by decide +kernel
theorem dX5_writeField_64 : decode cX5_writeField 64 = .ok (.invokevirtual 69, 3) := by decide +kernel
theorem dX5_writeField_67 : decode cX5_writeField 67 = .ok (.istore 4, 2) := by decide +kernel
theorem dX5_writeField_69 : decode cX5_writeField 69 = .ok (.aload_n 0, 1) := by decide +kernel
theorem dX5_writeField_70 : decode cX5_writeField 70 = .ok (.getfield 12, 3) := by decide +kernel
theorem dX5_writeField_73 : decode cX5_writeField 73 = .ok (.iload_n 1, 1) := by decide +kernel
theorem dX5_writeField_74 : decode cX5_writeField 74 = .ok (.iload_n 2, 1) := by decide +kernel
theorem dX5_writeField_75 : decode cX5_writeField 75 = .ok (.iload_n 3, 1) := by decide +kernel
theorem dX5_writeField_76 : decode cX5_writeField 76 = .ok (.invokevirtual 73, 3) := by decide +kernel
theorem dX5_writeField_79 : decode cX5_writeField 79 = .ok (.aload_n 0, 1) := by decide +kernel
theorem dX5_writeField_80 : decode cX5_writeField 80 = .ok (.aload_n 0, 1) := by decide +kernel
theorem dX5_writeField_81 : decode cX5_writeField 81 = .ok (.getfield 21, 3) := by decide +kernel
theorem dX5_writeField_84 : decode cX5_writeField 84 = .ok (.iload_n 1, 1) := by decide +kernel
theorem dX5_writeField_85 : decode cX5_writeField 85 = .ok (.invokevirtual 77, 3) := by decide +kernel
theorem dX5_writeField_88 : decode cX5_writeField 88 = .ok (.iload 4, 2) := by decide +kernel
theorem dX5_writeField_90 : decode cX5_writeField 90 = .ok (.iload_n 3, 1) := by decide +kernel
theorem dX5_writeField_91 : decode cX5_writeField 91 = .ok (.invokevirtual 80, 3) := by decide +kernel
theorem dX5_writeField_94 : decode cX5_writeField 94 = .ok (.iload 4, 2) := by decide +kernel
theorem dX5_writeField_96 : decode cX5_writeField 96 = .ok (.ireturn, 1) := by decide +kernel
theorem dX5_writeRoot_0 : decode cX5_writeRoot 0 = .ok (.iload_n 1, 1) := by decide +kernel
theorem dX5_writeRoot_1 : decode cX5_writeRoot 1 = .ok (.iconst 4, 1) := by decide +kernel
theorem dX5_writeRoot_2 : decode cX5_writeRoot 2 = .ok (.invokestatic 33, 3) := by decide +kernel
theorem dX5_writeRoot_5 : decode cX5_writeRoot 5 = .ok (.ifCond .eq 14, 3) := by decide +kernel
theorem dX5_writeRoot_8 : decode cX5_writeRoot 8 = .ok (.aload_n 0, 1) := by decide +kernel
theorem dX5_writeRoot_9 : decode cX5_writeRoot 9 = .ok (.getfield 12, 3) := by decide +kernel
theorem dX5_writeRoot_12 : decode cX5_writeRoot 12 = .ok (.iload_n 2, 1) := by decide +kernel
theorem dX5_writeRoot_13 : decode cX5_writeRoot 13 = .ok (.invokevirtual 59, 3) := by decide +kernel
theorem dX5_writeRoot_16 : decode cX5_writeRoot 16 = .ok (.ifCond .ne 6, 3) := by decide +kernel
theorem dX5_writeRoot_19 : decode cX5_writeRoot 19 = .ok (.bipush (-11), 2) := by decide +kernel
theorem dX5_writeRoot_21 : decode cX5_writeRoot 21 = .ok (.ireturn, 1) := by decide +kernel
theorem dX5_writeRoot_22 : decode cX5_writeRoot 22 = .ok (.iload_n 2, 1) := by decide +kernel
theorem dX5_writeRoot_23 : decode cX5_writeRoot 23 = .ok (.invokestatic 62, 3) := by decide +kernel
theorem dX5_writeRoot_26 : decode cX5_writeRoot 26 = .ok (.aload_n 0, 1) := by decide +kernel
theorem dX5_writeRoot_27 : decode cX5_writeRoot 27 = .ok (.getfield 12, 3) := by decide +kernel
theorem dX5_writeRoot_30 : decode cX5_writeRoot 30 = .ok (.invokevirtual 66, 3) := by decide +kernel
theorem dX5_writeRoot_33 : decode cX5_writeRoot 33 = .ok (.iconst (-1), 1) := by decide +kernel
theorem dX5_writeRoot_34 : decode cX5_writeRoot 34 = .ok (.ixor, 1) := by decide +kernel
theorem dX5_writeRoot_35 : decode cX5_writeRoot 35 = .ok (.iand, 1) := by decide +kernel
theorem dX5_writeRoot_36 : decode cX5_writeRoot 36 = .ok (.ifCond .eq 6, 3) := by decide +kernel
theorem dX5_writeRoot_39 : decode cX5_writeRoot 39 = .ok (.bipush (-12), 2) := by decide +kernel
theorem dX5_writeRoot_41 : decode cX5_writeRoot 41 = .ok (.ireturn, 1) := by decide +kernel
theorem dX5_writeRoot_42 : decode cX5_writeRoot 42 = .ok (.aload_n 0, 1) := by decide +kernel
theorem dX5_writeRoot_43 : decode cX5_writeRoot 43 = .ok (.getfield 12, 3) := by decide +kernel
theorem dX5_writeRoot_46 : decode cX5_writeRoot 46 = .ok (.iload_n 1, 1) := by decide +kernel
theorem dX5_writeRoot_47 : decode cX5_writeRoot 47 = .ok (.invokevirtual 84, 3) := by decide +kernel
theorem dX5_writeRoot_50 : decode cX5_writeRoot 50 = .ok (.istore_n 3, 1) := by decide +kernel
theorem dX5_writeRoot_51 : decode cX5_writeRoot 51 = .ok (.aload_n 0, 1) := by decide +kernel
theorem dX5_writeRoot_52 : decode cX5_writeRoot 52 = .ok (.iload_n 1, 1) := by decide +kernel
theorem dX5_writeRoot_53 : decode cX5_writeRoot 53 = .ok (.iload_n 2, 1) := by decide +kernel
theorem dX5_writeRoot_54 : decode cX5_writeRoot 54 = .ok (.invokevirtual 51, 3) := by decide +kernel
theorem dX5_writeRoot_57 : decode cX5_writeRoot 57 = .ok (.iload_n 3, 1) := by decide +kernel
theorem dX5_writeRoot_58 : decode cX5_writeRoot 58 = .ok (.ireturn, 1) := by decide +kernel
theorem dX5_writeHolder_0 : decode cX5_writeHolder 0 = .ok (.iload_n 1, 1) := by decide +kernel
theorem dX5_writeHolder_1 : decode cX5_writeHolder 1 = .ok (.iconst 4, 1) := by decide +kernel
theorem dX5_writeHolder_2 : decode cX5_writeHolder 2 = .ok (.invokestatic 33, 3) := by decide +kernel
theorem dX5_writeHolder_5 : decode cX5_writeHolder 5 = .ok (.ifCond .eq 14, 3) := by decide +kernel
theorem dX5_writeHolder_8 : decode cX5_writeHolder 8 = .ok (.aload_n 0, 1) := by decide +kernel
theorem dX5_writeHolder_9 : decode cX5_writeHolder 9 = .ok (.getfield 12, 3) := by decide +kernel
theorem dX5_writeHolder_12 : decode cX5_writeHolder 12 = .ok (.iload_n 2, 1) := by decide +kernel
theorem dX5_writeHolder_13 : decode cX5_writeHolder 13 = .ok (.invokevirtual 59, 3) := by decide +kernel
theorem dX5_writeHolder_16 : decode cX5_writeHolder 16 = .ok (.ifCond .ne 6, 3) := by decide +kernel
theorem dX5_writeHolder_19 : decode cX5_writeHolder 19 = .ok (.bipush (-11), 2) := by decide +kernel
theorem dX5_writeHolder_21 : decode cX5_writeHolder 21 = .ok (.ireturn, 1) := by decide +kernel
theorem dX5_writeHolder_22 : decode cX5_writeHolder 22 = .ok (.iload_n 2, 1) := by decide +kernel
theorem dX5_writeHolder_23 : decode cX5_writeHolder 23 = .ok (.invokestatic 62, 3) := by decide +kernel
theorem dX5_writeHolder_26 : decode cX5_writeHolder 26 = .ok (.aload_n 0, 1) := by decide +kernel
theorem dX5_writeHolder_27 : decode cX5_writeHolder 27 = .ok (.getfield 12, 3) := by decide +kernel
theorem dX5_writeHolder_30 : decode cX5_writeHolder 30 = .ok (.invokevirtual 66, 3) := by decide +kernel
theorem dX5_writeHolder_33 : decode cX5_writeHolder 33 = .ok (.iconst (-1), 1) := by decide +kernel
theorem dX5_writeHolder_34 : decode cX5_writeHolder 34 = .ok (.ixor, 1) := by decide +kernel
theorem dX5_writeHolder_35 : decode cX5_writeHolder 35 = .ok (.iand, 1) := by decide +kernel
theorem dX5_writeHolder_36 : decode cX5_writeHolder 36 = .ok (.ifCond .eq 6, 3) := by decide +kernel
theorem dX5_writeHolder_39 : decode cX5_writeHolder 39 = .ok (.bipush (-12), 2) := by decide +kernel
theorem dX5_writeHolder_41 : decode cX5_writeHolder 41 = .ok (.ireturn, 1) := by decide +kernel
theorem dX5_writeHolder_42 : decode cX5_writeHolder 42 = .ok (.aload_n 0, 1) := by decide +kernel
theorem dX5_writeHolder_43 : decode cX5_writeHolder 43 = .ok (.getfield 12, 3) := by decide +kernel
theorem dX5_writeHolder_46 : decode cX5_writeHolder 46 = .ok (.iload_n 1, 1) := by decide +kernel
theorem dX5_writeHolder_47 : decode cX5_writeHolder 47 = .ok (.invokevirtual 87, 3) := by decide +kernel
theorem dX5_writeHolder_50 : decode cX5_writeHolder 50 = .ok (.istore_n 3, 1) := by decide +kernel
theorem dX5_writeHolder_51 : decode cX5_writeHolder 51 = .ok (.aload_n 0, 1) := by decide +kernel
theorem dX5_writeHolder_52 : decode cX5_writeHolder 52 = .ok (.getfield 12, 3) := by decide +kernel
theorem dX5_writeHolder_55 : decode cX5_writeHolder 55 = .ok (.getfield 90, 3) := by decide +kernel
theorem dX5_writeHolder_58 : decode cX5_writeHolder 58 = .ok (.iload_n 1, 1) := by decide +kernel
theorem dX5_writeHolder_59 : decode cX5_writeHolder 59 = .ok (.iload_n 2, 1) := by decide +kernel
theorem dX5_writeHolder_60 : decode cX5_writeHolder 60 = .ok (.iastore, 1) := by decide +kernel
theorem dX5_writeHolder_61 : decode cX5_writeHolder 61 = .ok (.iload_n 3, 1) := by decide +kernel
theorem dX5_writeHolder_62 : decode cX5_writeHolder 62 = .ok (.ireturn, 1) := by decide +kernel
theorem dX5_shadeIfCareIsNeeded_0 : decode cX5_shadeIfCareIsNeeded 0 = .ok (.aload_n 0, 1) := by decide +kernel
theorem dX5_shadeIfCareIsNeeded_1 : decode cX5_shadeIfCareIsNeeded 1 = .ok (.getfield 21, 3) := by decide +kernel
theorem dX5_shadeIfCareIsNeeded_4 : decode cX5_shadeIfCareIsNeeded 4 = .ok (.invokevirtual 119, 3) := by decide +kernel
theorem dX5_shadeIfCareIsNeeded_7 : decode cX5_shadeIfCareIsNeeded 7 = .ok (.ifCond .eq 11, 3) := by decide +kernel
theorem dX5_shadeIfCareIsNeeded_10 : decode cX5_shadeIfCareIsNeeded 10 = .ok (.aload_n 0, 1) := by decide +kernel
theorem dX5_shadeIfCareIsNeeded_11 : decode cX5_shadeIfCareIsNeeded 11 = .ok (.getfield 21, 3) := by decide +kernel
theorem dX5_shadeIfCareIsNeeded_14 : decode cX5_shadeIfCareIsNeeded 14 = .ok (.iload_n 1, 1) := by decide +kernel
theorem dX5_shadeIfCareIsNeeded_15 : decode cX5_shadeIfCareIsNeeded 15 = .ok (.invokevirtual 123, 3) := by decide +kernel
theorem dX5_shadeIfCareIsNeeded_18 : decode cX5_shadeIfCareIsNeeded 18 = .ok (.return_, 1) := by decide +kernel
theorem dX5_askHolder_0 : decode cX5_askHolder 0 = .ok (.iload_n 1, 1) := by decide +kernel
theorem dX5_askHolder_1 : decode cX5_askHolder 1 = .ok (.iconst 4, 1) := by decide +kernel
theorem dX5_askHolder_2 : decode cX5_askHolder 2 = .ok (.invokestatic 33, 3) := by decide +kernel
theorem dX5_askHolder_5 : decode cX5_askHolder 5 = .ok (.ifCond .eq 11, 3) := by decide +kernel
theorem dX5_askHolder_8 : decode cX5_askHolder 8 = .ok (.iload_n 2, 1) := by decide +kernel
theorem dX5_askHolder_9 : decode cX5_askHolder 9 = .ok (.iconst 4, 1) := by decide +kernel
theorem dX5_askHolder_10 : decode cX5_askHolder 10 = .ok (.invokestatic 33, 3) := by decide +kernel
theorem dX5_askHolder_13 : decode cX5_askHolder 13 = .ok (.ifCond .ne 6, 3) := by decide +kernel
theorem dX5_askHolder_16 : decode cX5_askHolder 16 = .ok (.bipush (-11), 2) := by decide +kernel
theorem dX5_askHolder_18 : decode cX5_askHolder 18 = .ok (.ireturn, 1) := by decide +kernel
theorem dX5_askHolder_19 : decode cX5_askHolder 19 = .ok (.aload_n 0, 1) := by decide +kernel
theorem dX5_askHolder_20 : decode cX5_askHolder 20 = .ok (.getfield 12, 3) := by decide +kernel
theorem dX5_askHolder_23 : decode cX5_askHolder 23 = .ok (.iload_n 1, 1) := by decide +kernel
theorem dX5_askHolder_24 : decode cX5_askHolder 24 = .ok (.invokevirtual 87, 3) := by decide +kernel
theorem dX5_askHolder_27 : decode cX5_askHolder 27 = .ok (.istore_n 3, 1) := by decide +kernel
theorem dX5_askHolder_28 : decode cX5_askHolder 28 = .ok (.iload_n 3, 1) := by decide +kernel
theorem dX5_askHolder_29 : decode cX5_askHolder 29 = .ok (.iconst (-1), 1) := by decide +kernel
theorem dX5_askHolder_30 : decode cX5_askHolder 30 = .ok (.if_icmp .ne 6, 3) := by decide +kernel
theorem dX5_askHolder_33 : decode cX5_askHolder 33 = .ok (.bipush (-14), 2) := by decide +kernel
theorem dX5_askHolder_35 : decode cX5_askHolder 35 = .ok (.ireturn, 1) := by decide +kernel
theorem dX5_askHolder_36 : decode cX5_askHolder 36 = .ok (.aload_n 0, 1) := by decide +kernel
theorem dX5_askHolder_37 : decode cX5_askHolder 37 = .ok (.iload_n 2, 1) := by decide +kernel
theorem dX5_askHolder_38 : decode cX5_askHolder 38 = .ok (.iload_n 3, 1) := by decide +kernel
theorem dX5_askHolder_39 : decode cX5_askHolder 39 = .ok (.invokevirtual 51, 3) := by decide +kernel
theorem dX5_askHolder_42 : decode cX5_askHolder 42 = .ok (.aload_n 0, 1) := by decide +kernel
theorem dX5_askHolder_43 : decode cX5_askHolder 43 = .ok (.iload_n 3, 1) := by decide +kernel
theorem dX5_askHolder_44 : decode cX5_askHolder 44 = .ok (.invokevirtual 93, 3) := by decide +kernel
theorem dX5_askHolder_47 : decode cX5_askHolder 47 = .ok (.iload_n 3, 1) := by decide +kernel
theorem dX5_askHolder_48 : decode cX5_askHolder 48 = .ok (.ireturn, 1) := by decide +kernel
theorem dX5_wishFinish_0 : decode cX5_wishFinish 0 = .ok (.aload_n 0, 1) := by decide +kernel
theorem dX5_wishFinish_1 : decode cX5_wishFinish 1 = .ok (.getfield 12, 3) := by decide +kernel
theorem dX5_wishFinish_4 : decode cX5_wishFinish 4 = .ok (.iload_n 1, 1) := by decide +kernel
theorem dX5_wishFinish_5 : decode cX5_wishFinish 5 = .ok (.invokevirtual 55, 3) := by decide +kernel
theorem dX5_wishFinish_8 : decode cX5_wishFinish 8 = .ok (.ifCond .ne 6, 3) := by decide +kernel
theorem dX5_wishFinish_11 : decode cX5_wishFinish 11 = .ok (.bipush (-11), 2) := by decide +kernel
theorem dX5_wishFinish_13 : decode cX5_wishFinish 13 = .ok (.ireturn, 1) := by decide +kernel
theorem dX5_wishFinish_14 : decode cX5_wishFinish 14 = .ok (.iload_n 1, 1) := by decide +kernel
theorem dX5_wishFinish_15 : decode cX5_wishFinish 15 = .ok (.invokestatic 62, 3) := by decide +kernel
theorem dX5_wishFinish_18 : decode cX5_wishFinish 18 = .ok (.aload_n 0, 1) := by decide +kernel
theorem dX5_wishFinish_19 : decode cX5_wishFinish 19 = .ok (.getfield 12, 3) := by decide +kernel
theorem dX5_wishFinish_22 : decode cX5_wishFinish 22 = .ok (.invokevirtual 66, 3) := by decide +kernel
theorem dX5_wishFinish_25 : decode cX5_wishFinish 25 = .ok (.iand, 1) := by decide +kernel
theorem dX5_wishFinish_26 : decode cX5_wishFinish 26 = .ok (.aload_n 0, 1) := by decide +kernel
theorem dX5_wishFinish_27 : decode cX5_wishFinish 27 = .ok (.getfield 12, 3) := by decide +kernel
theorem dX5_wishFinish_30 : decode cX5_wishFinish 30 = .ok (.getfield 96, 3) := by decide +kernel
theorem dX5_wishFinish_33 : decode cX5_wishFinish 33 = .ok (.iconst (-1), 1) := by decide +kernel
theorem dX5_wishFinish_34 : decode cX5_wishFinish 34 = .ok (.ixor, 1) := by decide +kernel
theorem dX5_wishFinish_35 : decode cX5_wishFinish 35 = .ok (.iand, 1) := by decide +kernel
theorem dX5_wishFinish_36 : decode cX5_wishFinish 36 = .ok (.ifCond .ne 6, 3) := by decide +kernel
theorem dX5_wishFinish_39 : decode cX5_wishFinish 39 = .ok (.bipush (-12), 2) := by decide +kernel
theorem dX5_wishFinish_41 : decode cX5_wishFinish 41 = .ok (.ireturn, 1) := by decide +kernel
theorem dX5_wishFinish_42 : decode cX5_wishFinish 42 = .ok (.aload_n 0, 1) := by decide +kernel
theorem dX5_wishFinish_43 : decode cX5_wishFinish 43 = .ok (.getfield 12, 3) := by decide +kernel
theorem dX5_wishFinish_46 : decode cX5_wishFinish 46 = .ok (.dup, 1) := by decide +kernel
theorem dX5_wishFinish_47 : decode cX5_wishFinish 47 = .ok (.getfield 96, 3) := by decide +kernel
theorem dX5_wishFinish_50 : decode cX5_wishFinish 50 = .ok (.iload_n 1, 1) := by decide +kernel
theorem dX5_wishFinish_51 : decode cX5_wishFinish 51 = .ok (.invokestatic 62, 3) := by decide +kernel
theorem dX5_wishFinish_54 : decode cX5_wishFinish 54 = .ok (.ior, 1) := by decide +kernel
theorem dX5_wishFinish_55 : decode cX5_wishFinish 55 = .ok (.putfield 96, 3) := by decide +kernel
theorem dX5_wishFinish_58 : decode cX5_wishFinish 58 = .ok (.aload_n 0, 1) := by decide +kernel
theorem dX5_wishFinish_59 : decode cX5_wishFinish 59 = .ok (.getfield 12, 3) := by decide +kernel
theorem dX5_wishFinish_62 : decode cX5_wishFinish 62 = .ok (.getfield 96, 3) := by decide +kernel
theorem dX5_wishFinish_65 : decode cX5_wishFinish 65 = .ok (.invokestatic 99, 3) := by decide +kernel
theorem dX5_wishFinish_68 : decode cX5_wishFinish 68 = .ok (.ireturn, 1) := by decide +kernel
theorem dX5_finishFirst_0 : decode cX5_finishFirst 0 = .ok (.iload_n 1, 1) := by decide +kernel
theorem dX5_finishFirst_1 : decode cX5_finishFirst 1 = .ok (.iconst (-1), 1) := by decide +kernel
theorem dX5_finishFirst_2 : decode cX5_finishFirst 2 = .ok (.if_icmp .eq 14, 3) := by decide +kernel
theorem dX5_finishFirst_5 : decode cX5_finishFirst 5 = .ok (.iload_n 1, 1) := by decide +kernel
theorem dX5_finishFirst_6 : decode cX5_finishFirst 6 = .ok (.iconst 4, 1) := by decide +kernel
theorem dX5_finishFirst_7 : decode cX5_finishFirst 7 = .ok (.invokestatic 33, 3) := by decide +kernel
theorem dX5_finishFirst_10 : decode cX5_finishFirst 10 = .ok (.ifCond .ne 6, 3) := by decide +kernel
theorem dX5_finishFirst_13 : decode cX5_finishFirst 13 = .ok (.bipush (-11), 2) := by decide +kernel
theorem dX5_finishFirst_15 : decode cX5_finishFirst 15 = .ok (.ireturn, 1) := by decide +kernel
theorem dX5_finishFirst_16 : decode cX5_finishFirst 16 = .ok (.aload_n 0, 1) := by decide +kernel
theorem dX5_finishFirst_17 : decode cX5_finishFirst 17 = .ok (.getfield 12, 3) := by decide +kernel
theorem dX5_finishFirst_20 : decode cX5_finishFirst 20 = .ok (.getfield 104, 3) := by decide +kernel
theorem dX5_finishFirst_23 : decode cX5_finishFirst 23 = .ok (.invokevirtual 108, 3) := by decide +kernel
theorem dX5_finishFirst_26 : decode cX5_finishFirst 26 = .ok (.istore_n 2, 1) := by decide +kernel
theorem dX5_finishFirst_27 : decode cX5_finishFirst 27 = .ok (.iload_n 2, 1) := by decide +kernel
theorem dX5_finishFirst_28 : decode cX5_finishFirst 28 = .ok (.iconst (-1), 1) := by decide +kernel
theorem dX5_finishFirst_29 : decode cX5_finishFirst 29 = .ok (.if_icmp .ne 6, 3) := by decide +kernel
theorem dX5_finishFirst_32 : decode cX5_finishFirst 32 = .ok (.bipush (-12), 2) := by decide +kernel
theorem dX5_finishFirst_34 : decode cX5_finishFirst 34 = .ok (.ireturn, 1) := by decide +kernel
theorem dX5_finishFirst_35 : decode cX5_finishFirst 35 = .ok (.aload_n 0, 1) := by decide +kernel
theorem dX5_finishFirst_36 : decode cX5_finishFirst 36 = .ok (.dup, 1) := by decide +kernel
theorem dX5_finishFirst_37 : decode cX5_finishFirst 37 = .ok (.getfield 113, 3) := by decide +kernel
theorem dX5_finishFirst_40 : decode cX5_finishFirst 40 = .ok (.iconst 1, 1) := by decide +kernel
theorem dX5_finishFirst_41 : decode cX5_finishFirst 41 = .ok (.iadd, 1) := by decide +kernel
theorem dX5_finishFirst_42 : decode cX5_finishFirst 42 = .ok (.putfield 113, 3) := by decide +kernel
theorem dX5_finishFirst_45 : decode cX5_finishFirst 45 = .ok (.iload_n 1, 1) := by decide +kernel
theorem dX5_finishFirst_46 : decode cX5_finishFirst 46 = .ok (.iconst (-1), 1) := by decide +kernel
theorem dX5_finishFirst_47 : decode cX5_finishFirst 47 = .ok (.if_icmp .eq 9, 3) := by decide +kernel
theorem dX5_finishFirst_50 : decode cX5_finishFirst 50 = .ok (.aload_n 0, 1) := by decide +kernel
theorem dX5_finishFirst_51 : decode cX5_finishFirst 51 = .ok (.iload_n 1, 1) := by decide +kernel
theorem dX5_finishFirst_52 : decode cX5_finishFirst 52 = .ok (.iload_n 2, 1) := by decide +kernel
theorem dX5_finishFirst_53 : decode cX5_finishFirst 53 = .ok (.invokevirtual 51, 3) := by decide +kernel
theorem dX5_finishFirst_56 : decode cX5_finishFirst 56 = .ok (.aload_n 0, 1) := by decide +kernel
theorem dX5_finishFirst_57 : decode cX5_finishFirst 57 = .ok (.iload_n 2, 1) := by decide +kernel
theorem dX5_finishFirst_58 : decode cX5_finishFirst 58 = .ok (.invokevirtual 93, 3) := by decide +kernel
theorem dX5_finishFirst_61 : decode cX5_finishFirst 61 = .ok (.iload_n 2, 1) := by decide +kernel
theorem dX5_finishFirst_62 : decode cX5_finishFirst 62 = .ok (.ireturn, 1) := by decide +kernel
theorem dX5_beginSearch_0 : decode cX5_beginSearch 0 = .ok (.aload_n 0, 1) := by decide +kernel
theorem dX5_beginSearch_1 : decode cX5_beginSearch 1 = .ok (.getfield 21, 3) := by decide +kernel
theorem dX5_beginSearch_4 : decode cX5_beginSearch 4 = .ok (.invokevirtual 126, 3) := by decide +kernel
theorem dX5_beginSearch_7 : decode cX5_beginSearch 7 = .ok (.ifCond .eq 6, 3) := by decide +kernel
theorem dX5_beginSearch_10 : decode cX5_beginSearch 10 = .ok (.bipush (-12), 2) := by decide +kernel
theorem dX5_beginSearch_12 : decode cX5_beginSearch 12 = .ok (.ireturn, 1) := by decide +kernel
theorem dX5_beginSearch_13 : decode cX5_beginSearch 13 = .ok (.aload_n 0, 1) := by decide +kernel
theorem dX5_beginSearch_14 : decode cX5_beginSearch 14 = .ok (.getfield 21, 3) := by decide +kernel
theorem dX5_beginSearch_17 : decode cX5_beginSearch 17 = .ok (.aload_n 0, 1) := by decide +kernel
theorem dX5_beginSearch_18 : decode cX5_beginSearch 18 = .ok (.getfield 12, 3) := by decide +kernel
theorem dX5_beginSearch_21 : decode cX5_beginSearch 21 = .ok (.invokevirtual 129, 3) := by decide +kernel
theorem dX5_beginSearch_24 : decode cX5_beginSearch 24 = .ok (.aload_n 0, 1) := by decide +kernel
theorem dX5_beginSearch_25 : decode cX5_beginSearch 25 = .ok (.getfield 21, 3) := by decide +kernel
theorem dX5_beginSearch_28 : decode cX5_beginSearch 28 = .ok (.getfield 133, 3) := by decide +kernel
theorem dX5_beginSearch_31 : decode cX5_beginSearch 31 = .ok (.getfield 136, 3) := by decide +kernel
theorem dX5_beginSearch_34 : decode cX5_beginSearch 34 = .ok (.ireturn, 1) := by decide +kernel
theorem dX5_doSteps_0 : decode cX5_doSteps 0 = .ok (.iload_n 1, 1) := by decide +kernel
theorem dX5_doSteps_1 : decode cX5_doSteps 1 = .ok (.iconst 1, 1) := by decide +kernel
theorem dX5_doSteps_2 : decode cX5_doSteps 2 = .ok (.if_icmp .lt 9, 3) := by decide +kernel
theorem dX5_doSteps_5 : decode cX5_doSteps 5 = .ok (.iload_n 1, 1) := by decide +kernel
theorem dX5_doSteps_6 : decode cX5_doSteps 6 = .ok (.bipush 99, 2) := by decide +kernel
theorem dX5_doSteps_8 : decode cX5_doSteps 8 = .ok (.if_icmp .le 6, 3) := by decide +kernel
theorem dX5_doSteps_11 : decode cX5_doSteps 11 = .ok (.bipush (-11), 2) := by decide +kernel
theorem dX5_doSteps_13 : decode cX5_doSteps 13 = .ok (.ireturn, 1) := by decide +kernel
theorem dX5_doSteps_14 : decode cX5_doSteps 14 = .ok (.aload_n 0, 1) := by decide +kernel
theorem dX5_doSteps_15 : decode cX5_doSteps 15 = .ok (.getfield 21, 3) := by decide +kernel
theorem dX5_doSteps_18 : decode cX5_doSteps 18 = .ok (.invokevirtual 126, 3) := by decide +kernel
theorem dX5_doSteps_21 : decode cX5_doSteps 21 = .ok (.ifCond .ne 6, 3) := by decide +kernel
theorem dX5_doSteps_24 : decode cX5_doSteps 24 = .ok (.bipush (-12), 2) := by decide +kernel
theorem dX5_doSteps_26 : decode cX5_doSteps 26 = .ok (.ireturn, 1) := by decide +kernel
theorem dX5_doSteps_27 : decode cX5_doSteps 27 = .ok (.aload_n 0, 1) := by decide +kernel
theorem dX5_doSteps_28 : decode cX5_doSteps 28 = .ok (.getfield 21, 3) := by decide +kernel
theorem dX5_doSteps_31 : decode cX5_doSteps 31 = .ok (.getfield 139, 3) := by decide +kernel
theorem dX5_doSteps_34 : decode cX5_doSteps 34 = .ok (.istore_n 2, 1) := by decide +kernel
theorem dX5_doSteps_35 : decode cX5_doSteps 35 = .ok (.iconst 0, 1) := by decide +kernel
theorem dX5_doSteps_36 : decode cX5_doSteps 36 = .ok (.istore_n 3, 1) := by decide +kernel
theorem dX5_doSteps_37 : decode cX5_doSteps 37 = .ok (.iload_n 3, 1) := by decide +kernel
theorem dX5_doSteps_38 : decode cX5_doSteps 38 = .ok (.iload_n 1, 1) := by decide +kernel
theorem dX5_doSteps_39 : decode cX5_doSteps 39 = .ok (.if_icmp .ge 30, 3) := by decide +kernel
theorem dX5_doSteps_42 : decode cX5_doSteps 42 = .ok (.aload_n 0, 1) := by decide +kernel
theorem dX5_doSteps_43 : decode cX5_doSteps 43 = .ok (.getfield 21, 3) := by decide +kernel
theorem dX5_doSteps_46 : decode cX5_doSteps 46 = .ok (.invokevirtual 126, 3) := by decide +kernel
theorem dX5_doSteps_49 : decode cX5_doSteps 49 = .ok (.ifCond .eq 20, 3) := by decide +kernel
theorem dX5_doSteps_52 : decode cX5_doSteps 52 = .ok (.aload_n 0, 1) := by decide +kernel
theorem dX5_doSteps_53 : decode cX5_doSteps 53 = .ok (.getfield 21, 3) := by decide +kernel
theorem dX5_doSteps_56 : decode cX5_doSteps 56 = .ok (.aload_n 0, 1) := by decide +kernel
theorem dX5_doSteps_57 : decode cX5_doSteps 57 = .ok (.getfield 12, 3) := by decide +kernel
theorem dX5_doSteps_60 : decode cX5_doSteps 60 = .ok (.invokevirtual 142, 3) := by decide +kernel
theorem dX5_doSteps_63 : decode cX5_doSteps 63 = .ok (.iinc 3 1, 3) := by decide +kernel
theorem dX5_doSteps_66 : decode cX5_doSteps 66 = .ok (.goto (-29), 3) := by decide +kernel
theorem dX5_doSteps_69 : decode cX5_doSteps 69 = .ok (.aload_n 0, 1) := by decide +kernel
theorem dX5_doSteps_70 : decode cX5_doSteps 70 = .ok (.getfield 21, 3) := by decide +kernel
theorem dX5_doSteps_73 : decode cX5_doSteps 73 = .ok (.getfield 139, 3) := by decide +kernel
theorem dX5_doSteps_76 : decode cX5_doSteps 76 = .ok (.iload_n 2, 1) := by decide +kernel
theorem dX5_doSteps_77 : decode cX5_doSteps 77 = .ok (.isub, 1) := by decide +kernel
theorem dX5_doSteps_78 : decode cX5_doSteps 78 = .ok (.ireturn, 1) := by decide +kernel
theorem dX5_doAllSteps_0 : decode cX5_doAllSteps 0 = .ok (.aload_n 0, 1) := by decide +kernel
theorem dX5_doAllSteps_1 : decode cX5_doAllSteps 1 = .ok (.getfield 21, 3) := by decide +kernel
theorem dX5_doAllSteps_4 : decode cX5_doAllSteps 4 = .ok (.invokevirtual 126, 3) := by decide +kernel
theorem dX5_doAllSteps_7 : decode cX5_doAllSteps 7 = .ok (.ifCond .ne 14, 3) := by decide +kernel
theorem dX5_doAllSteps_10 : decode cX5_doAllSteps 10 = .ok (.aload_n 0, 1) := by decide +kernel
theorem dX5_doAllSteps_11 : decode cX5_doAllSteps 11 = .ok (.getfield 21, 3) := by decide +kernel
theorem dX5_doAllSteps_14 : decode cX5_doAllSteps 14 = .ok (.aload_n 0, 1) := by decide +kernel
theorem dX5_doAllSteps_15 : decode cX5_doAllSteps 15 = .ok (.getfield 12, 3) := by decide +kernel
theorem dX5_doAllSteps_18 : decode cX5_doAllSteps 18 = .ok (.invokevirtual 129, 3) := by decide +kernel
theorem dX5_doAllSteps_21 : decode cX5_doAllSteps 21 = .ok (.iconst 0, 1) := by decide +kernel
theorem dX5_doAllSteps_22 : decode cX5_doAllSteps 22 = .ok (.istore_n 1, 1) := by decide +kernel
theorem dX5_doAllSteps_23 : decode cX5_doAllSteps 23 = .ok (.iload_n 1, 1) := by decide +kernel
theorem dX5_doAllSteps_24 : decode cX5_doAllSteps 24 = .ok (.sipush 10000, 3) := by decide +kernel
theorem dX5_doAllSteps_27 : decode cX5_doAllSteps 27 = .ok (.if_icmp .ge 30, 3) := by decide +kernel
theorem dX5_doAllSteps_30 : decode cX5_doAllSteps 30 = .ok (.aload_n 0, 1) := by decide +kernel
theorem dX5_doAllSteps_31 : decode cX5_doAllSteps 31 = .ok (.getfield 21, 3) := by decide +kernel
theorem dX5_doAllSteps_34 : decode cX5_doAllSteps 34 = .ok (.invokevirtual 126, 3) := by decide +kernel
theorem dX5_doAllSteps_37 : decode cX5_doAllSteps 37 = .ok (.ifCond .eq 20, 3) := by decide +kernel
theorem dX5_doAllSteps_40 : decode cX5_doAllSteps 40 = .ok (.aload_n 0, 1) := by decide +kernel
theorem dX5_doAllSteps_41 : decode cX5_doAllSteps 41 = .ok (.getfield 21, 3) := by decide +kernel
theorem dX5_doAllSteps_44 : decode cX5_doAllSteps 44 = .ok (.aload_n 0, 1) := by decide +kernel
theorem dX5_doAllSteps_45 : decode cX5_doAllSteps 45 = .ok (.getfield 12, 3) := by decide +kernel
theorem dX5_doAllSteps_48 : decode cX5_doAllSteps 48 = .ok (.invokevirtual 142, 3) := by decide +kernel
theorem dX5_doAllSteps_51 : decode cX5_doAllSteps 51 = .ok (.iinc 1 1, 3) := by decide +kernel
theorem dX5_doAllSteps_54 : decode cX5_doAllSteps 54 = .ok (.goto (-31), 3) := by decide +kernel
theorem dX5_doAllSteps_57 : decode cX5_doAllSteps 57 = .ok (.iload_n 1, 1) := by decide +kernel
theorem dX5_doAllSteps_58 : decode cX5_doAllSteps 58 = .ok (.ireturn, 1) := by decide +kernel
theorem dX5_setCare_0 : decode cX5_setCare 0 = .ok (.iload_n 1, 1) := by decide +kernel
theorem dX5_setCare_1 : decode cX5_setCare 1 = .ok (.iconst 1, 1) := by decide +kernel
theorem dX5_setCare_2 : decode cX5_setCare 2 = .ok (.if_icmp .eq 11, 3) := by decide +kernel
theorem dX5_setCare_5 : decode cX5_setCare 5 = .ok (.iload_n 1, 1) := by decide +kernel
theorem dX5_setCare_6 : decode cX5_setCare 6 = .ok (.iconst 2, 1) := by decide +kernel
theorem dX5_setCare_7 : decode cX5_setCare 7 = .ok (.if_icmp .eq 6, 3) := by decide +kernel
theorem dX5_setCare_10 : decode cX5_setCare 10 = .ok (.bipush (-11), 2) := by decide +kernel
theorem dX5_setCare_12 : decode cX5_setCare 12 = .ok (.ireturn, 1) := by decide +kernel
theorem dX5_setCare_13 : decode cX5_setCare 13 = .ok (.aload_n 0, 1) := by decide +kernel
theorem dX5_setCare_14 : decode cX5_setCare 14 = .ok (.getfield 21, 3) := by decide +kernel
theorem dX5_setCare_17 : decode cX5_setCare 17 = .ok (.invokevirtual 126, 3) := by decide +kernel
theorem dX5_setCare_20 : decode cX5_setCare 20 = .ok (.ifCond .eq 6, 3) := by decide +kernel
theorem dX5_setCare_23 : decode cX5_setCare 23 = .ok (.bipush (-12), 2) := by decide +kernel
theorem dX5_setCare_25 : decode cX5_setCare 25 = .ok (.ireturn, 1) := by decide +kernel
theorem dX5_setCare_26 : decode cX5_setCare 26 = .ok (.aload_n 0, 1) := by decide +kernel
theorem dX5_setCare_27 : decode cX5_setCare 27 = .ok (.getfield 29, 3) := by decide +kernel
theorem dX5_setCare_30 : decode cX5_setCare 30 = .ok (.istore_n 2, 1) := by decide +kernel
theorem dX5_setCare_31 : decode cX5_setCare 31 = .ok (.aload_n 0, 1) := by decide +kernel
theorem dX5_setCare_32 : decode cX5_setCare 32 = .ok (.iload_n 1, 1) := by decide +kernel
theorem dX5_setCare_33 : decode cX5_setCare 33 = .ok (.putfield 29, 3) := by decide +kernel
theorem dX5_setCare_36 : decode cX5_setCare 36 = .ok (.iload_n 2, 1) := by decide +kernel
theorem dX5_setCare_37 : decode cX5_setCare 37 = .ok (.ireturn, 1) := by decide +kernel
theorem dX5_tellObject_0 : decode cX5_tellObject 0 = .ok (.iload_n 1, 1) := by decide +kernel
theorem dX5_tellObject_1 : decode cX5_tellObject 1 = .ok (.bipush 24, 2) := by decide +kernel
theorem dX5_tellObject_3 : decode cX5_tellObject 3 = .ok (.invokestatic 33, 3) := by decide +kernel
theorem dX5_tellObject_6 : decode cX5_tellObject 6 = .ok (.ifCond .eq 14, 3) := by decide +kernel
theorem dX5_tellObject_9 : decode cX5_tellObject 9 = .ok (.aload_n 0, 1) := by decide +kernel
theorem dX5_tellObject_10 : decode cX5_tellObject 10 = .ok (.getfield 12, 3) := by decide +kernel
theorem dX5_tellObject_13 : decode cX5_tellObject 13 = .ok (.iload_n 1, 1) := by decide +kernel
theorem dX5_tellObject_14 : decode cX5_tellObject 14 = .ok (.invokevirtual 55, 3) := by decide +kernel
theorem dX5_tellObject_17 : decode cX5_tellObject 17 = .ok (.ifCond .ne 6, 3) := by decide +kernel
theorem dX5_tellObject_20 : decode cX5_tellObject 20 = .ok (.bipush (-11), 2) := by decide +kernel
theorem dX5_tellObject_22 : decode cX5_tellObject 22 = .ok (.ireturn, 1) := by decide +kernel
theorem dX5_tellObject_23 : decode cX5_tellObject 23 = .ok (.iload_n 2, 1) := by decide +kernel
theorem dX5_tellObject_24 : decode cX5_tellObject 24 = .ok (.tableswitch 138 0 7 #[48, 57, 57, 57, 69, 90, 111, 123], 48) := by decide +kernel
theorem dX5_tellObject_72 : decode cX5_tellObject 72 = .ok (.aload_n 0, 1) := by decide +kernel
theorem dX5_tellObject_73 : decode cX5_tellObject 73 = .ok (.getfield 21, 3) := by decide +kernel
theorem dX5_tellObject_76 : decode cX5_tellObject 76 = .ok (.iload_n 1, 1) := by decide +kernel
theorem dX5_tellObject_77 : decode cX5_tellObject 77 = .ok (.invokevirtual 145, 3) := by decide +kernel
theorem dX5_tellObject_80 : decode cX5_tellObject 80 = .ok (.ireturn, 1) := by decide +kernel
theorem dX5_tellObject_81 : decode cX5_tellObject 81 = .ok (.aload_n 0, 1) := by decide +kernel
theorem dX5_tellObject_82 : decode cX5_tellObject 82 = .ok (.getfield 12, 3) := by decide +kernel
theorem dX5_tellObject_85 : decode cX5_tellObject 85 = .ok (.iload_n 1, 1) := by decide +kernel
theorem dX5_tellObject_86 : decode cX5_tellObject 86 = .ok (.iload_n 2, 1) := by decide +kernel
theorem dX5_tellObject_87 : decode cX5_tellObject 87 = .ok (.iconst 1, 1) := by decide +kernel
theorem dX5_tellObject_88 : decode cX5_tellObject 88 = .ok (.isub, 1) := by decide +kernel
theorem dX5_tellObject_89 : decode cX5_tellObject 89 = .ok (.invokevirtual 69, 3) := by decide +kernel
theorem dX5_tellObject_92 : decode cX5_tellObject 92 = .ok (.ireturn, 1) := by decide +kernel
theorem dX5_tellObject_93 : decode cX5_tellObject 93 = .ok (.aload_n 0, 1) := by decide +kernel
theorem dX5_tellObject_94 : decode cX5_tellObject 94 = .ok (.getfield 12, 3) := by decide +kernel
theorem dX5_tellObject_97 : decode cX5_tellObject 97 = .ok (.getfield 96, 3) := by decide +kernel
theorem dX5_tellObject_100 : decode cX5_tellObject 100 = .ok (.iload_n 1, 1) := by decide +kernel
theorem dX5_tellObject_101 : decode cX5_tellObject 101 = .ok (.invokestatic 62, 3) := by decide +kernel
theorem dX5_tellObject_104 : decode cX5_tellObject 104 = .ok (.iand, 1) := by decide +kernel
theorem dX5_tellObject_105 : decode cX5_tellObject 105 = .ok (.ifCond .eq 7, 3) := by decide +kernel
theorem dX5_tellObject_108 : decode cX5_tellObject 108 = .ok (.iconst 1, 1) := by decide +kernel
theorem dX5_tellObject_109 : decode cX5_tellObject 109 = .ok (.goto 4, 3) := by decide +kernel
theorem dX5_tellObject_112 : decode cX5_tellObject 112 = .ok (.iconst 0, 1) := by decide +kernel
theorem dX5_tellObject_113 : decode cX5_tellObject 113 = .ok (.ireturn, 1) := by decide +kernel
theorem dX5_tellObject_114 : decode cX5_tellObject 114 = .ok (.aload_n 0, 1) := by decide +kernel
theorem dX5_tellObject_115 : decode cX5_tellObject 115 = .ok (.getfield 12, 3) := by decide +kernel
theorem dX5_tellObject_118 : decode cX5_tellObject 118 = .ok (.invokevirtual 148, 3) := by decide +kernel
theorem dX5_tellObject_121 : decode cX5_tellObject 121 = .ok (.iload_n 1, 1) := by decide +kernel
theorem dX5_tellObject_122 : decode cX5_tellObject 122 = .ok (.invokestatic 62, 3) := by decide +kernel
theorem dX5_tellObject_125 : decode cX5_tellObject 125 = .ok (.iand, 1) := by decide +kernel
theorem dX5_tellObject_126 : decode cX5_tellObject 126 = .ok (.ifCond .eq 7, 3) := by decide +kernel
theorem dX5_tellObject_129 : decode cX5_tellObject 129 = .ok (.iconst 1, 1) := by decide +kernel
theorem dX5_tellObject_130 : decode cX5_tellObject 130 = .ok (.goto 4, 3) := by decide +kernel
theorem dX5_tellObject_133 : decode cX5_tellObject 133 = .ok (.iconst 0, 1) := by decide +kernel
theorem dX5_tellObject_134 : decode cX5_tellObject 134 = .ok (.ireturn, 1) := by decide +kernel
theorem dX5_tellObject_135 : decode cX5_tellObject 135 = .ok (.aload_n 0, 1) := by decide +kernel
theorem dX5_tellObject_136 : decode cX5_tellObject 136 = .ok (.getfield 12, 3) := by decide +kernel
theorem dX5_tellObject_139 : decode cX5_tellObject 139 = .ok (.getfield 104, 3) := by decide +kernel
theorem dX5_tellObject_142 : decode cX5_tellObject 142 = .ok (.iload_n 1, 1) := by decide +kernel
theorem dX5_tellObject_143 : decode cX5_tellObject 143 = .ok (.invokevirtual 151, 3) := by decide +kernel
theorem dX5_tellObject_146 : decode cX5_tellObject 146 = .ok (.ireturn, 1) := by decide +kernel
theorem dX5_tellObject_147 : decode cX5_tellObject 147 = .ok (.aload_n 0, 1) := by decide +kernel
theorem dX5_tellObject_148 : decode cX5_tellObject 148 = .ok (.getfield 21, 3) := by decide +kernel
theorem dX5_tellObject_151 : decode cX5_tellObject 151 = .ok (.getfield 44, 3) := by decide +kernel
theorem dX5_tellObject_154 : decode cX5_tellObject 154 = .ok (.aload_n 0, 1) := by decide +kernel
theorem dX5_tellObject_155 : decode cX5_tellObject 155 = .ok (.getfield 25, 3) := by decide +kernel
theorem dX5_tellObject_158 : decode cX5_tellObject 158 = .ok (.iload_n 1, 1) := by decide +kernel
theorem dX5_tellObject_159 : decode cX5_tellObject 159 = .ok (.iaload, 1) := by decide +kernel
theorem dX5_tellObject_160 : decode cX5_tellObject 160 = .ok (.isub, 1) := by decide +kernel
theorem dX5_tellObject_161 : decode cX5_tellObject 161 = .ok (.ireturn, 1) := by decide +kernel
theorem dX5_tellObject_162 : decode cX5_tellObject 162 = .ok (.bipush (-11), 2) := by decide +kernel
theorem dX5_tellObject_164 : decode cX5_tellObject 164 = .ok (.ireturn, 1) := by decide +kernel
theorem dX5_tellSet_0 : decode cX5_tellSet 0 = .ok (.iload_n 1, 1) := by decide +kernel
theorem dX5_tellSet_1 : decode cX5_tellSet 1 = .ok (.tableswitch 115 0 7 #[47, 55, 63, 71, 83, 91, 99, 107], 47) := by decide +kernel
theorem dX5_tellSet_48 : decode cX5_tellSet 48 = .ok (.aload_n 0, 1) := by decide +kernel
theorem dX5_tellSet_49 : decode cX5_tellSet 49 = .ok (.getfield 12, 3) := by decide +kernel
theorem dX5_tellSet_52 : decode cX5_tellSet 52 = .ok (.getfield 154, 3) := by decide +kernel
theorem dX5_tellSet_55 : decode cX5_tellSet 55 = .ok (.ireturn, 1) := by decide +kernel
theorem dX5_tellSet_56 : decode cX5_tellSet 56 = .ok (.aload_n 0, 1) := by decide +kernel
theorem dX5_tellSet_57 : decode cX5_tellSet 57 = .ok (.getfield 12, 3) := by decide +kernel
theorem dX5_tellSet_60 : decode cX5_tellSet 60 = .ok (.invokevirtual 148, 3) := by decide +kernel
theorem dX5_tellSet_63 : decode cX5_tellSet 63 = .ok (.ireturn, 1) := by decide +kernel
theorem dX5_tellSet_64 : decode cX5_tellSet 64 = .ok (.aload_n 0, 1) := by decide +kernel
theorem dX5_tellSet_65 : decode cX5_tellSet 65 = .ok (.getfield 12, 3) := by decide +kernel
theorem dX5_tellSet_68 : decode cX5_tellSet 68 = .ok (.invokevirtual 66, 3) := by decide +kernel
theorem dX5_tellSet_71 : decode cX5_tellSet 71 = .ok (.ireturn, 1) := by decide +kernel
theorem dX5_tellSet_72 : decode cX5_tellSet 72 = .ok (.aload_n 0, 1) := by decide +kernel
theorem dX5_tellSet_73 : decode cX5_tellSet 73 = .ok (.getfield 21, 3) := by decide +kernel
theorem dX5_tellSet_76 : decode cX5_tellSet 76 = .ok (.aload_n 0, 1) := by decide +kernel
theorem dX5_tellSet_77 : decode cX5_tellSet 77 = .ok (.getfield 12, 3) := by decide +kernel
theorem dX5_tellSet_80 : decode cX5_tellSet 80 = .ok (.invokevirtual 157, 3) := by decide +kernel
theorem dX5_tellSet_83 : decode cX5_tellSet 83 = .ok (.ireturn, 1) := by decide +kernel
theorem dX5_tellSet_84 : decode cX5_tellSet 84 = .ok (.aload_n 0, 1) := by decide +kernel
theorem dX5_tellSet_85 : decode cX5_tellSet 85 = .ok (.getfield 21, 3) := by decide +kernel
theorem dX5_tellSet_88 : decode cX5_tellSet 88 = .ok (.getfield 161, 3) := by decide +kernel
theorem dX5_tellSet_91 : decode cX5_tellSet 91 = .ok (.ireturn, 1) := by decide +kernel
theorem dX5_tellSet_92 : decode cX5_tellSet 92 = .ok (.aload_n 0, 1) := by decide +kernel
theorem dX5_tellSet_93 : decode cX5_tellSet 93 = .ok (.getfield 21, 3) := by decide +kernel
theorem dX5_tellSet_96 : decode cX5_tellSet 96 = .ok (.getfield 164, 3) := by decide +kernel
theorem dX5_tellSet_99 : decode cX5_tellSet 99 = .ok (.ireturn, 1) := by decide +kernel
theorem dX5_tellSet_100 : decode cX5_tellSet 100 = .ok (.aload_n 0, 1) := by decide +kernel
theorem dX5_tellSet_101 : decode cX5_tellSet 101 = .ok (.getfield 12, 3) := by decide +kernel
theorem dX5_tellSet_104 : decode cX5_tellSet 104 = .ok (.getfield 96, 3) := by decide +kernel
theorem dX5_tellSet_107 : decode cX5_tellSet 107 = .ok (.ireturn, 1) := by decide +kernel
theorem dX5_tellSet_108 : decode cX5_tellSet 108 = .ok (.aload_n 0, 1) := by decide +kernel
theorem dX5_tellSet_109 : decode cX5_tellSet 109 = .ok (.getfield 21, 3) := by decide +kernel
theorem dX5_tellSet_112 : decode cX5_tellSet 112 = .ok (.getfield 167, 3) := by decide +kernel
theorem dX5_tellSet_115 : decode cX5_tellSet 115 = .ok (.ireturn, 1) := by decide +kernel
theorem dX5_tellSet_116 : decode cX5_tellSet 116 = .ok (.bipush (-11), 2) := by decide +kernel
theorem dX5_tellSet_118 : decode cX5_tellSet 118 = .ok (.ireturn, 1) := by decide +kernel
theorem dX5_tellNumber_0 : decode cX5_tellNumber 0 = .ok (.iload_n 1, 1) := by decide +kernel
theorem dX5_tellNumber_1 : decode cX5_tellNumber 1 = .ok (.tableswitch 160 0 9 #[55, 63, 71, 79, 84, 92, 97, 108, 132, 155], 55) := by decide +kernel
theorem dX5_tellNumber_56 : decode cX5_tellNumber 56 = .ok (.aload_n 0, 1) := by decide +kernel
theorem dX5_tellNumber_57 : decode cX5_tellNumber 57 = .ok (.getfield 12, 3) := by decide +kernel
theorem dX5_tellNumber_60 : decode cX5_tellNumber 60 = .ok (.invokevirtual 170, 3) := by decide +kernel
theorem dX5_tellNumber_63 : decode cX5_tellNumber 63 = .ok (.ireturn, 1) := by decide +kernel
theorem dX5_tellNumber_64 : decode cX5_tellNumber 64 = .ok (.aload_n 0, 1) := by decide +kernel
theorem dX5_tellNumber_65 : decode cX5_tellNumber 65 = .ok (.getfield 21, 3) := by decide +kernel
theorem dX5_tellNumber_68 : decode cX5_tellNumber 68 = .ok (.getfield 173, 3) := by decide +kernel
theorem dX5_tellNumber_71 : decode cX5_tellNumber 71 = .ok (.ireturn, 1) := by decide +kernel
theorem dX5_tellNumber_72 : decode cX5_tellNumber 72 = .ok (.aload_n 0, 1) := by decide +kernel
theorem dX5_tellNumber_73 : decode cX5_tellNumber 73 = .ok (.getfield 21, 3) := by decide +kernel
theorem dX5_tellNumber_76 : decode cX5_tellNumber 76 = .ok (.getfield 44, 3) := by decide +kernel
theorem dX5_tellNumber_79 : decode cX5_tellNumber 79 = .ok (.ireturn, 1) := by decide +kernel
theorem dX5_tellNumber_80 : decode cX5_tellNumber 80 = .ok (.aload_n 0, 1) := by decide +kernel
theorem dX5_tellNumber_81 : decode cX5_tellNumber 81 = .ok (.getfield 41, 3) := by decide +kernel
theorem dX5_tellNumber_84 : decode cX5_tellNumber 84 = .ok (.ireturn, 1) := by decide +kernel
theorem dX5_tellNumber_85 : decode cX5_tellNumber 85 = .ok (.aload_n 0, 1) := by decide +kernel
theorem dX5_tellNumber_86 : decode cX5_tellNumber 86 = .ok (.getfield 21, 3) := by decide +kernel
theorem dX5_tellNumber_89 : decode cX5_tellNumber 89 = .ok (.getfield 139, 3) := by decide +kernel
theorem dX5_tellNumber_92 : decode cX5_tellNumber 92 = .ok (.ireturn, 1) := by decide +kernel
theorem dX5_tellNumber_93 : decode cX5_tellNumber 93 = .ok (.aload_n 0, 1) := by decide +kernel
theorem dX5_tellNumber_94 : decode cX5_tellNumber 94 = .ok (.getfield 113, 3) := by decide +kernel
theorem dX5_tellNumber_97 : decode cX5_tellNumber 97 = .ok (.ireturn, 1) := by decide +kernel
theorem dX5_tellNumber_98 : decode cX5_tellNumber 98 = .ok (.aload_n 0, 1) := by decide +kernel
theorem dX5_tellNumber_99 : decode cX5_tellNumber 99 = .ok (.getfield 12, 3) := by decide +kernel
theorem dX5_tellNumber_102 : decode cX5_tellNumber 102 = .ok (.getfield 104, 3) := by decide +kernel
theorem dX5_tellNumber_105 : decode cX5_tellNumber 105 = .ok (.getfield 136, 3) := by decide +kernel
theorem dX5_tellNumber_108 : decode cX5_tellNumber 108 = .ok (.ireturn, 1) := by decide +kernel
theorem dX5_tellNumber_109 : decode cX5_tellNumber 109 = .ok (.aload_n 0, 1) := by decide +kernel
theorem dX5_tellNumber_110 : decode cX5_tellNumber 110 = .ok (.getfield 21, 3) := by decide +kernel
theorem dX5_tellNumber_113 : decode cX5_tellNumber 113 = .ok (.getfield 173, 3) := by decide +kernel
theorem dX5_tellNumber_116 : decode cX5_tellNumber 116 = .ok (.iconst 3, 1) := by decide +kernel
theorem dX5_tellNumber_117 : decode cX5_tellNumber 117 = .ok (.if_icmp .ne 13, 3) := by decide +kernel
theorem dX5_tellNumber_120 : decode cX5_tellNumber 120 = .ok (.aload_n 0, 1) := by decide +kernel
theorem dX5_tellNumber_121 : decode cX5_tellNumber 121 = .ok (.getfield 21, 3) := by decide +kernel
theorem dX5_tellNumber_124 : decode cX5_tellNumber 124 = .ok (.getfield 176, 3) := by decide +kernel
theorem dX5_tellNumber_127 : decode cX5_tellNumber 127 = .ok (.goto 5, 3) := by decide +kernel
theorem dX5_tellNumber_130 : decode cX5_tellNumber 130 = .ok (.bipush (-14), 2) := by decide +kernel
theorem dX5_tellNumber_132 : decode cX5_tellNumber 132 = .ok (.ireturn, 1) := by decide +kernel
theorem dX5_tellNumber_133 : decode cX5_tellNumber 133 = .ok (.aload_n 0, 1) := by decide +kernel
theorem dX5_tellNumber_134 : decode cX5_tellNumber 134 = .ok (.getfield 21, 3) := by decide +kernel
theorem dX5_tellNumber_137 : decode cX5_tellNumber 137 = .ok (.getfield 44, 3) := by decide +kernel
theorem dX5_tellNumber_140 : decode cX5_tellNumber 140 = .ok (.ifCond .le 13, 3) := by decide +kernel
theorem dX5_tellNumber_143 : decode cX5_tellNumber 143 = .ok (.aload_n 0, 1) := by decide +kernel
theorem dX5_tellNumber_144 : decode cX5_tellNumber 144 = .ok (.getfield 21, 3) := by decide +kernel
theorem dX5_tellNumber_147 : decode cX5_tellNumber 147 = .ok (.getfield 179, 3) := by decide +kernel
theorem dX5_tellNumber_150 : decode cX5_tellNumber 150 = .ok (.goto 5, 3) := by decide +kernel
theorem dX5_tellNumber_153 : decode cX5_tellNumber 153 = .ok (.bipush (-14), 2) := by decide +kernel
theorem dX5_tellNumber_155 : decode cX5_tellNumber 155 = .ok (.ireturn, 1) := by decide +kernel
theorem dX5_tellNumber_156 : decode cX5_tellNumber 156 = .ok (.aload_n 0, 1) := by decide +kernel
theorem dX5_tellNumber_157 : decode cX5_tellNumber 157 = .ok (.getfield 29, 3) := by decide +kernel
theorem dX5_tellNumber_160 : decode cX5_tellNumber 160 = .ok (.ireturn, 1) := by decide +kernel
theorem dX5_tellNumber_161 : decode cX5_tellNumber 161 = .ok (.bipush (-11), 2) := by decide +kernel
theorem dX5_tellNumber_163 : decode cX5_tellNumber 163 = .ok (.ireturn, 1) := by decide +kernel
theorem dX5_lateOnes_0 : decode cX5_lateOnes 0 = .ok (.aload_n 0, 1) := by decide +kernel
theorem dX5_lateOnes_1 : decode cX5_lateOnes 1 = .ok (.getfield 21, 3) := by decide +kernel
theorem dX5_lateOnes_4 : decode cX5_lateOnes 4 = .ok (.invokevirtual 126, 3) := by decide +kernel
theorem dX5_lateOnes_7 : decode cX5_lateOnes 7 = .ok (.ifCond .ne 5, 3) := by decide +kernel
theorem dX5_lateOnes_10 : decode cX5_lateOnes 10 = .ok (.iconst 0, 1) := by decide +kernel
theorem dX5_lateOnes_11 : decode cX5_lateOnes 11 = .ok (.ireturn, 1) := by decide +kernel
theorem dX5_lateOnes_12 : decode cX5_lateOnes 12 = .ok (.aload_n 0, 1) := by decide +kernel
theorem dX5_lateOnes_13 : decode cX5_lateOnes 13 = .ok (.getfield 21, 3) := by decide +kernel
theorem dX5_lateOnes_16 : decode cX5_lateOnes 16 = .ok (.getfield 161, 3) := by decide +kernel
theorem dX5_lateOnes_19 : decode cX5_lateOnes 19 = .ok (.aload_n 0, 1) := by decide +kernel
theorem dX5_lateOnes_20 : decode cX5_lateOnes 20 = .ok (.getfield 21, 3) := by decide +kernel
theorem dX5_lateOnes_23 : decode cX5_lateOnes 23 = .ok (.getfield 164, 3) := by decide +kernel
theorem dX5_lateOnes_26 : decode cX5_lateOnes 26 = .ok (.ior, 1) := by decide +kernel
theorem dX5_lateOnes_27 : decode cX5_lateOnes 27 = .ok (.istore_n 1, 1) := by decide +kernel
theorem dX5_lateOnes_28 : decode cX5_lateOnes 28 = .ok (.aload_n 0, 1) := by decide +kernel
theorem dX5_lateOnes_29 : decode cX5_lateOnes 29 = .ok (.getfield 21, 3) := by decide +kernel
theorem dX5_lateOnes_32 : decode cX5_lateOnes 32 = .ok (.getfield 173, 3) := by decide +kernel
theorem dX5_lateOnes_35 : decode cX5_lateOnes 35 = .ok (.iconst 3, 1) := by decide +kernel
theorem dX5_lateOnes_36 : decode cX5_lateOnes 36 = .ok (.if_icmp .ne 17, 3) := by decide +kernel
theorem dX5_lateOnes_39 : decode cX5_lateOnes 39 = .ok (.iload_n 1, 1) := by decide +kernel
theorem dX5_lateOnes_40 : decode cX5_lateOnes 40 = .ok (.iconst 1, 1) := by decide +kernel
theorem dX5_lateOnes_41 : decode cX5_lateOnes 41 = .ok (.aload_n 0, 1) := by decide +kernel
theorem dX5_lateOnes_42 : decode cX5_lateOnes 42 = .ok (.getfield 21, 3) := by decide +kernel
theorem dX5_lateOnes_45 : decode cX5_lateOnes 45 = .ok (.getfield 176, 3) := by decide +kernel
theorem dX5_lateOnes_48 : decode cX5_lateOnes 48 = .ok (.ishl, 1) := by decide +kernel
theorem dX5_lateOnes_49 : decode cX5_lateOnes 49 = .ok (.iconst 1, 1) := by decide +kernel
theorem dX5_lateOnes_50 : decode cX5_lateOnes 50 = .ok (.isub, 1) := by decide +kernel
theorem dX5_lateOnes_51 : decode cX5_lateOnes 51 = .ok (.ior, 1) := by decide +kernel
theorem dX5_lateOnes_52 : decode cX5_lateOnes 52 = .ok (.istore_n 1, 1) := by decide +kernel
theorem dX5_lateOnes_53 : decode cX5_lateOnes 53 = .ok (.aload_n 0, 1) := by decide +kernel
theorem dX5_lateOnes_54 : decode cX5_lateOnes 54 = .ok (.getfield 12, 3) := by decide +kernel
theorem dX5_lateOnes_57 : decode cX5_lateOnes 57 = .ok (.getfield 154, 3) := by decide +kernel
theorem dX5_lateOnes_60 : decode cX5_lateOnes 60 = .ok (.iload_n 1, 1) := by decide +kernel
theorem dX5_lateOnes_61 : decode cX5_lateOnes 61 = .ok (.iand, 1) := by decide +kernel
theorem dX5_lateOnes_62 : decode cX5_lateOnes 62 = .ok (.aload_n 0, 1) := by decide +kernel
theorem dX5_lateOnes_63 : decode cX5_lateOnes 63 = .ok (.getfield 12, 3) := by decide +kernel
theorem dX5_lateOnes_66 : decode cX5_lateOnes 66 = .ok (.invokevirtual 66, 3) := by decide +kernel
theorem dX5_lateOnes_69 : decode cX5_lateOnes 69 = .ok (.iconst (-1), 1) := by decide +kernel
theorem dX5_lateOnes_70 : decode cX5_lateOnes 70 = .ok (.ixor, 1) := by decide +kernel
theorem dX5_lateOnes_71 : decode cX5_lateOnes 71 = .ok (.iand, 1) := by decide +kernel
theorem dX5_lateOnes_72 : decode cX5_lateOnes 72 = .ok (.ireturn, 1) := by decide +kernel
theorem dX0_append_0 : decode cX0_append 0 = .ok (.iload_n 1, 1) := by decide +kernel
theorem dX0_append_1 : decode cX0_append 1 = .ok (.bipush 32, 2) := by decide +kernel
theorem dX0_append_3 : decode cX0_append 3 = .ok (.if_icmp .lt 9, 3) := by decide +kernel
theorem dX0_append_6 : decode cX0_append 6 = .ok (.iload_n 1, 1) := by decide +kernel
theorem dX0_append_7 : decode cX0_append 7 = .ok (.bipush 126, 2) := by decide +kernel
theorem dX0_append_9 : decode cX0_append 9 = .ok (.if_icmp .le 6, 3) := by decide +kernel
theorem dX0_append_12 : decode cX0_append 12 = .ok (.bipush (-11), 2) := by decide +kernel
theorem dX0_append_14 : decode cX0_append 14 = .ok (.ireturn, 1) := by decide +kernel
theorem dX0_append_15 : decode cX0_append 15 = .ok (.aload_n 0, 1) := by decide +kernel
theorem dX0_append_16 : decode cX0_append 16 = .ok (.getfield 15, 3) := by decide +kernel
theorem dX0_append_19 : decode cX0_append 19 = .ok (.bipush 60, 2) := by decide +kernel
theorem dX0_append_21 : decode cX0_append 21 = .ok (.if_icmp .lt 6, 3) := by decide +kernel
theorem dX0_append_24 : decode cX0_append 24 = .ok (.bipush (-13), 2) := by decide +kernel
theorem dX0_append_26 : decode cX0_append 26 = .ok (.ireturn, 1) := by decide +kernel
theorem dX0_append_27 : decode cX0_append 27 = .ok (.aload_n 0, 1) := by decide +kernel
theorem dX0_append_28 : decode cX0_append 28 = .ok (.getfield 9, 3) := by decide +kernel
theorem dX0_append_31 : decode cX0_append 31 = .ok (.aload_n 0, 1) := by decide +kernel
theorem dX0_append_32 : decode cX0_append 32 = .ok (.getfield 15, 3) := by decide +kernel
theorem dX0_append_35 : decode cX0_append 35 = .ok (.iload_n 1, 1) := by decide +kernel
theorem dX0_append_36 : decode cX0_append 36 = .ok (.iastore, 1) := by decide +kernel
theorem dX0_append_37 : decode cX0_append 37 = .ok (.aload_n 0, 1) := by decide +kernel
theorem dX0_append_38 : decode cX0_append 38 = .ok (.dup, 1) := by decide +kernel
theorem dX0_append_39 : decode cX0_append 39 = .ok (.getfield 15, 3) := by decide +kernel
theorem dX0_append_42 : decode cX0_append 42 = .ok (.iconst 1, 1) := by decide +kernel
theorem dX0_append_43 : decode cX0_append 43 = .ok (.iadd, 1) := by decide +kernel
theorem dX0_append_44 : decode cX0_append 44 = .ok (.putfield 15, 3) := by decide +kernel
theorem dX0_append_47 : decode cX0_append 47 = .ok (.aload_n 0, 1) := by decide +kernel
theorem dX0_append_48 : decode cX0_append 48 = .ok (.getfield 15, 3) := by decide +kernel
theorem dX0_append_51 : decode cX0_append 51 = .ok (.ireturn, 1) := by decide +kernel
theorem dX0_empty_0 : decode cX0_empty 0 = .ok (.aload_n 0, 1) := by decide +kernel
theorem dX0_empty_1 : decode cX0_empty 1 = .ok (.getfield 15, 3) := by decide +kernel
theorem dX0_empty_4 : decode cX0_empty 4 = .ok (.istore_n 1, 1) := by decide +kernel
theorem dX0_empty_5 : decode cX0_empty 5 = .ok (.aload_n 0, 1) := by decide +kernel
theorem dX0_empty_6 : decode cX0_empty 6 = .ok (.iconst 0, 1) := by decide +kernel
theorem dX0_empty_7 : decode cX0_empty 7 = .ok (.putfield 15, 3) := by decide +kernel
theorem dX0_empty_10 : decode cX0_empty 10 = .ok (.iload_n 1, 1) := by decide +kernel
theorem dX0_empty_11 : decode cX0_empty 11 = .ok (.ireturn, 1) := by decide +kernel
theorem dX0_tellFault_0 : decode cX0_tellFault 0 = .ok (.aload_n 0, 1) := by decide +kernel
theorem dX0_tellFault_1 : decode cX0_tellFault 1 = .ok (.getfield 25, 3) := by decide +kernel
theorem dX0_tellFault_4 : decode cX0_tellFault 4 = .ok (.ifCond .eq 16, 3) := by decide +kernel
theorem dX0_tellFault_7 : decode cX0_tellFault 7 = .ok (.iload_n 1, 1) := by decide +kernel
theorem dX0_tellFault_8 : decode cX0_tellFault 8 = .ok (.iconst 2, 1) := by decide +kernel
theorem dX0_tellFault_9 : decode cX0_tellFault 9 = .ok (.if_icmp .ne 14, 3) := by decide +kernel
theorem dX0_tellFault_12 : decode cX0_tellFault 12 = .ok (.aload_n 0, 1) := by decide +kernel
theorem dX0_tellFault_13 : decode cX0_tellFault 13 = .ok (.getfield 25, 3) := by decide +kernel
theorem dX0_tellFault_16 : decode cX0_tellFault 16 = .ok (.iconst 1, 1) := by decide +kernel
theorem dX0_tellFault_17 : decode cX0_tellFault 17 = .ok (.if_icmp .ne 6, 3) := by decide +kernel
theorem dX0_tellFault_20 : decode cX0_tellFault 20 = .ok (.bipush (-14), 2) := by decide +kernel
theorem dX0_tellFault_22 : decode cX0_tellFault 22 = .ok (.ireturn, 1) := by decide +kernel
theorem dX0_tellFault_23 : decode cX0_tellFault 23 = .ok (.iload_n 1, 1) := by decide +kernel
theorem dX0_tellFault_24 : decode cX0_tellFault 24 = .ok (.lookupswitch 38 #[(0, 28), (1, 33)], 28) := by decide +kernel
theorem dX0_tellFault_52 : decode cX0_tellFault 52 = .ok (.aload_n 0, 1) := by decide +kernel
theorem dX0_tellFault_53 : decode cX0_tellFault 53 = .ok (.getfield 28, 3) := by decide +kernel
theorem dX0_tellFault_56 : decode cX0_tellFault 56 = .ok (.ireturn, 1) := by decide +kernel
theorem dX0_tellFault_57 : decode cX0_tellFault 57 = .ok (.aload_n 0, 1) := by decide +kernel
theorem dX0_tellFault_58 : decode cX0_tellFault 58 = .ok (.getfield 25, 3) := by decide +kernel
theorem dX0_tellFault_61 : decode cX0_tellFault 61 = .ok (.ireturn, 1) := by decide +kernel
theorem dX0_tellFault_62 : decode cX0_tellFault 62 = .ok (.aload_n 0, 1) := by decide +kernel
theorem dX0_tellFault_63 : decode cX0_tellFault 63 = .ok (.getfield 47, 3) := by decide +kernel
theorem dX0_tellFault_66 : decode cX0_tellFault 66 = .ok (.ireturn, 1) := by decide +kernel
theorem dX0_signAt_0 : decode cX0_signAt 0 = .ok (.iload_n 1, 1) := by decide +kernel
theorem dX0_signAt_1 : decode cX0_signAt 1 = .ok (.ifCond .lt 26, 3) := by decide +kernel
theorem dX0_signAt_4 : decode cX0_signAt 4 = .ok (.iload_n 1, 1) := by decide +kernel
theorem dX0_signAt_5 : decode cX0_signAt 5 = .ok (.aload_n 0, 1) := by decide +kernel
theorem dX0_signAt_6 : decode cX0_signAt 6 = .ok (.getfield 15, 3) := by decide +kernel
theorem dX0_signAt_9 : decode cX0_signAt 9 = .ok (.if_icmp .ge 18, 3) := by decide +kernel
theorem dX0_signAt_12 : decode cX0_signAt 12 = .ok (.iload_n 1, 1) := by decide +kernel
theorem dX0_signAt_13 : decode cX0_signAt 13 = .ok (.bipush 60, 2) := by decide +kernel
theorem dX0_signAt_15 : decode cX0_signAt 15 = .ok (.if_icmp .ge 12, 3) := by decide +kernel
theorem dX0_signAt_18 : decode cX0_signAt 18 = .ok (.aload_n 0, 1) := by decide +kernel
theorem dX0_signAt_19 : decode cX0_signAt 19 = .ok (.getfield 9, 3) := by decide +kernel
theorem dX0_signAt_22 : decode cX0_signAt 22 = .ok (.iload_n 1, 1) := by decide +kernel
theorem dX0_signAt_23 : decode cX0_signAt 23 = .ok (.iaload, 1) := by decide +kernel
theorem dX0_signAt_24 : decode cX0_signAt 24 = .ok (.goto 4, 3) := by decide +kernel
theorem dX0_signAt_27 : decode cX0_signAt 27 = .ok (.iconst 0, 1) := by decide +kernel
theorem dX0_signAt_28 : decode cX0_signAt 28 = .ok (.ireturn, 1) := by decide +kernel
theorem dX0_read_0 : decode cX0_read 0 = .ok (.aload_n 0, 1) := by decide +kernel
theorem dX0_read_1 : decode cX0_read 1 = .ok (.aload_n 0, 1) := by decide +kernel
theorem dX0_read_2 : decode cX0_read 2 = .ok (.getfield 19, 3) := by decide +kernel
theorem dX0_read_5 : decode cX0_read 5 = .ok (.invokevirtual 75, 3) := by decide +kernel
theorem dX0_read_8 : decode cX0_read 8 = .ok (.iload_n 1, 1) := by decide +kernel
theorem dX0_read_9 : decode cX0_read 9 = .ok (.if_icmp .eq 5, 3) := by decide +kernel
theorem dX0_read_12 : decode cX0_read 12 = .ok (.iconst 0, 1) := by decide +kernel
theorem dX0_read_13 : decode cX0_read 13 = .ok (.ireturn, 1) := by decide +kernel
theorem dX0_read_14 : decode cX0_read 14 = .ok (.aload_n 0, 1) := by decide +kernel
theorem dX0_read_15 : decode cX0_read 15 = .ok (.dup, 1) := by decide +kernel
theorem dX0_read_16 : decode cX0_read 16 = .ok (.getfield 19, 3) := by decide +kernel
theorem dX0_read_19 : decode cX0_read 19 = .ok (.iconst 1, 1) := by decide +kernel
theorem dX0_read_20 : decode cX0_read 20 = .ok (.iadd, 1) := by decide +kernel
theorem dX0_read_21 : decode cX0_read 21 = .ok (.putfield 19, 3) := by decide +kernel
theorem dX0_read_24 : decode cX0_read 24 = .ok (.iconst 1, 1) := by decide +kernel
theorem dX0_read_25 : decode cX0_read 25 = .ok (.ireturn, 1) := by decide +kernel
theorem dX0_readNumber_0 : decode cX0_readNumber 0 = .ok (.iconst 0, 1) := by decide +kernel
theorem dX0_readNumber_1 : decode cX0_readNumber 1 = .ok (.istore_n 1, 1) := by decide +kernel
theorem dX0_readNumber_2 : decode cX0_readNumber 2 = .ok (.iconst 0, 1) := by decide +kernel
theorem dX0_readNumber_3 : decode cX0_readNumber 3 = .ok (.istore_n 2, 1) := by decide +kernel
theorem dX0_readNumber_4 : decode cX0_readNumber 4 = .ok (.iload_n 2, 1) := by decide +kernel
theorem dX0_readNumber_5 : decode cX0_readNumber 5 = .ok (.iconst 3, 1) := by decide +kernel
theorem dX0_readNumber_6 : decode cX0_readNumber 6 = .ok (.if_icmp .ge 50, 3) := by decide +kernel
theorem dX0_readNumber_9 : decode cX0_readNumber 9 = .ok (.aload_n 0, 1) := by decide +kernel
theorem dX0_readNumber_10 : decode cX0_readNumber 10 = .ok (.aload_n 0, 1) := by decide +kernel
theorem dX0_readNumber_11 : decode cX0_readNumber 11 = .ok (.getfield 19, 3) := by decide +kernel
theorem dX0_readNumber_14 : decode cX0_readNumber 14 = .ok (.invokevirtual 75, 3) := by decide +kernel
theorem dX0_readNumber_17 : decode cX0_readNumber 17 = .ok (.invokestatic 87, 3) := by decide +kernel
theorem dX0_readNumber_20 : decode cX0_readNumber 20 = .ok (.ifCond .eq 36, 3) := by decide +kernel
theorem dX0_readNumber_23 : decode cX0_readNumber 23 = .ok (.iload_n 1, 1) := by decide +kernel
theorem dX0_readNumber_24 : decode cX0_readNumber 24 = .ok (.bipush 10, 2) := by decide +kernel
theorem dX0_readNumber_26 : decode cX0_readNumber 26 = .ok (.imul, 1) := by decide +kernel
theorem dX0_readNumber_27 : decode cX0_readNumber 27 = .ok (.aload_n 0, 1) := by decide +kernel
theorem dX0_readNumber_28 : decode cX0_readNumber 28 = .ok (.aload_n 0, 1) := by decide +kernel
theorem dX0_readNumber_29 : decode cX0_readNumber 29 = .ok (.getfield 19, 3) := by decide +kernel
theorem dX0_readNumber_32 : decode cX0_readNumber 32 = .ok (.invokevirtual 75, 3) := by decide +kernel
theorem dX0_readNumber_35 : decode cX0_readNumber 35 = .ok (.iadd, 1) := by decide +kernel
theorem dX0_readNumber_36 : decode cX0_readNumber 36 = .ok (.bipush 48, 2) := by decide +kernel
theorem dX0_readNumber_38 : decode cX0_readNumber 38 = .ok (.isub, 1) := by decide +kernel
theorem dX0_readNumber_39 : decode cX0_readNumber 39 = .ok (.istore_n 1, 1) := by decide +kernel
theorem dX0_readNumber_40 : decode cX0_readNumber 40 = .ok (.aload_n 0, 1) := by decide +kernel
theorem dX0_readNumber_41 : decode cX0_readNumber 41 = .ok (.dup, 1) := by decide +kernel
theorem dX0_readNumber_42 : decode cX0_readNumber 42 = .ok (.getfield 19, 3) := by decide +kernel
theorem dX0_readNumber_45 : decode cX0_readNumber 45 = .ok (.iconst 1, 1) := by decide +kernel
theorem dX0_readNumber_46 : decode cX0_readNumber 46 = .ok (.iadd, 1) := by decide +kernel
theorem dX0_readNumber_47 : decode cX0_readNumber 47 = .ok (.putfield 19, 3) := by decide +kernel
theorem dX0_readNumber_50 : decode cX0_readNumber 50 = .ok (.iinc 2 1, 3) := by decide +kernel
theorem dX0_readNumber_53 : decode cX0_readNumber 53 = .ok (.goto (-49), 3) := by decide +kernel
theorem dX0_readNumber_56 : decode cX0_readNumber 56 = .ok (.iload_n 2, 1) := by decide +kernel
theorem dX0_readNumber_57 : decode cX0_readNumber 57 = .ok (.ifCond .le 7, 3) := by decide +kernel
theorem dX0_readNumber_60 : decode cX0_readNumber 60 = .ok (.iload_n 1, 1) := by decide +kernel
theorem dX0_readNumber_61 : decode cX0_readNumber 61 = .ok (.goto 5, 3) := by decide +kernel
theorem dX0_readNumber_64 : decode cX0_readNumber 64 = .ok (.bipush (-2), 2) := by decide +kernel
theorem dX0_readNumber_66 : decode cX0_readNumber 66 = .ok (.ireturn, 1) := by decide +kernel
theorem dX0_readTarget_0 : decode cX0_readTarget 0 = .ok (.aload_n 0, 1) := by decide +kernel
theorem dX0_readTarget_1 : decode cX0_readTarget 1 = .ok (.bipush 45, 2) := by decide +kernel
theorem dX0_readTarget_3 : decode cX0_readTarget 3 = .ok (.invokevirtual 78, 3) := by decide +kernel
theorem dX0_readTarget_6 : decode cX0_readTarget 6 = .ok (.ifCond .eq 7, 3) := by decide +kernel
theorem dX0_readTarget_9 : decode cX0_readTarget 9 = .ok (.iconst (-1), 1) := by decide +kernel
theorem dX0_readTarget_10 : decode cX0_readTarget 10 = .ok (.goto 7, 3) := by decide +kernel
theorem dX0_readTarget_13 : decode cX0_readTarget 13 = .ok (.aload_n 0, 1) := by decide +kernel
theorem dX0_readTarget_14 : decode cX0_readTarget 14 = .ok (.invokevirtual 81, 3) := by decide +kernel
theorem dX0_readTarget_17 : decode cX0_readTarget 17 = .ok (.ireturn, 1) := by decide +kernel
theorem dX0_readCommand_0 : decode cX0_readCommand 0 = .ok (.aload_n 0, 1) := by decide +kernel
theorem dX0_readCommand_1 : decode cX0_readCommand 1 = .ok (.aload_n 0, 1) := by decide +kernel
theorem dX0_readCommand_2 : decode cX0_readCommand 2 = .ok (.aload_n 0, 1) := by decide +kernel
theorem dX0_readCommand_3 : decode cX0_readCommand 3 = .ok (.getfield 19, 3) := by decide +kernel
theorem dX0_readCommand_6 : decode cX0_readCommand 6 = .ok (.invokevirtual 75, 3) := by decide +kernel
theorem dX0_readCommand_9 : decode cX0_readCommand 9 = .ok (.putfield 35, 3) := by decide +kernel
theorem dX0_readCommand_12 : decode cX0_readCommand 12 = .ok (.aload_n 0, 1) := by decide +kernel
theorem dX0_readCommand_13 : decode cX0_readCommand 13 = .ok (.dup, 1) := by decide +kernel
theorem dX0_readCommand_14 : decode cX0_readCommand 14 = .ok (.getfield 19, 3) := by decide +kernel
theorem dX0_readCommand_17 : decode cX0_readCommand 17 = .ok (.iconst 1, 1) := by decide +kernel
theorem dX0_readCommand_18 : decode cX0_readCommand 18 = .ok (.iadd, 1) := by decide +kernel
theorem dX0_readCommand_19 : decode cX0_readCommand 19 = .ok (.putfield 19, 3) := by decide +kernel
theorem dX0_readCommand_22 : decode cX0_readCommand 22 = .ok (.aload_n 0, 1) := by decide +kernel
theorem dX0_readCommand_23 : decode cX0_readCommand 23 = .ok (.getfield 35, 3) := by decide +kernel
theorem dX0_readCommand_26 : decode cX0_readCommand 26 = .ok (.lookupswitch 246 #[(98, 50), (102, 152), (110, 57), (114, 89), (115, 57)], 50) := by decide +kernel
theorem dX0_readCommand_76 : decode cX0_readCommand 76 = .ok (.aload_n 0, 1) := by decide +kernel
theorem dX0_readCommand_77 : decode cX0_readCommand 77 = .ok (.bipush 59, 2) := by decide +kernel
theorem dX0_readCommand_79 : decode cX0_readCommand 79 = .ok (.invokevirtual 78, 3) := by decide +kernel
theorem dX0_readCommand_82 : decode cX0_readCommand 82 = .ok (.ireturn, 1) := by decide +kernel
theorem dX0_readCommand_83 : decode cX0_readCommand 83 = .ok (.aload_n 0, 1) := by decide +kernel
theorem dX0_readCommand_84 : decode cX0_readCommand 84 = .ok (.aload_n 0, 1) := by decide +kernel
theorem dX0_readCommand_85 : decode cX0_readCommand 85 = .ok (.invokevirtual 81, 3) := by decide +kernel
theorem dX0_readCommand_88 : decode cX0_readCommand 88 = .ok (.putfield 38, 3) := by decide +kernel
theorem dX0_readCommand_91 : decode cX0_readCommand 91 = .ok (.aload_n 0, 1) := by decide +kernel
theorem dX0_readCommand_92 : decode cX0_readCommand 92 = .ok (.getfield 38, 3) := by decide +kernel
theorem dX0_readCommand_95 : decode cX0_readCommand 95 = .ok (.bipush (-2), 2) := by decide +kernel
theorem dX0_readCommand_97 : decode cX0_readCommand 97 = .ok (.if_icmp .eq 16, 3) := by decide +kernel
theorem dX0_readCommand_100 : decode cX0_readCommand 100 = .ok (.aload_n 0, 1) := by decide +kernel
theorem dX0_readCommand_101 : decode cX0_readCommand 101 = .ok (.bipush 59, 2) := by decide +kernel
theorem dX0_readCommand_103 : decode cX0_readCommand 103 = .ok (.invokevirtual 78, 3) := by decide +kernel
theorem dX0_readCommand_106 : decode cX0_readCommand 106 = .ok (.ifCond .eq 7, 3) := by decide +kernel
theorem dX0_readCommand_109 : decode cX0_readCommand 109 = .ok (.iconst 1, 1) := by decide +kernel
theorem dX0_readCommand_110 : decode cX0_readCommand 110 = .ok (.goto 4, 3) := by decide +kernel
theorem dX0_readCommand_113 : decode cX0_readCommand 113 = .ok (.iconst 0, 1) := by decide +kernel
theorem dX0_readCommand_114 : decode cX0_readCommand 114 = .ok (.ireturn, 1) := by decide +kernel
theorem dX0_readCommand_115 : decode cX0_readCommand 115 = .ok (.aload_n 0, 1) := by decide +kernel
theorem dX0_readCommand_116 : decode cX0_readCommand 116 = .ok (.aload_n 0, 1) := by decide +kernel
theorem dX0_readCommand_117 : decode cX0_readCommand 117 = .ok (.invokevirtual 81, 3) := by decide +kernel
theorem dX0_readCommand_120 : decode cX0_readCommand 120 = .ok (.putfield 38, 3) := by decide +kernel
theorem dX0_readCommand_123 : decode cX0_readCommand 123 = .ok (.aload_n 0, 1) := by decide +kernel
theorem dX0_readCommand_124 : decode cX0_readCommand 124 = .ok (.aload_n 0, 1) := by decide +kernel
theorem dX0_readCommand_125 : decode cX0_readCommand 125 = .ok (.bipush 44, 2) := by decide +kernel
theorem dX0_readCommand_127 : decode cX0_readCommand 127 = .ok (.invokevirtual 78, 3) := by decide +kernel
theorem dX0_readCommand_130 : decode cX0_readCommand 130 = .ok (.ifCond .eq 10, 3) := by decide +kernel
theorem dX0_readCommand_133 : decode cX0_readCommand 133 = .ok (.aload_n 0, 1) := by decide +kernel
theorem dX0_readCommand_134 : decode cX0_readCommand 134 = .ok (.invokevirtual 84, 3) := by decide +kernel
theorem dX0_readCommand_137 : decode cX0_readCommand 137 = .ok (.goto 5, 3) := by decide +kernel
theorem dX0_readCommand_140 : decode cX0_readCommand 140 = .ok (.bipush (-2), 2) := by decide +kernel
theorem dX0_readCommand_142 : decode cX0_readCommand 142 = .ok (.putfield 50, 3) := by decide +kernel
theorem dX0_readCommand_145 : decode cX0_readCommand 145 = .ok (.aload_n 0, 1) := by decide +kernel
theorem dX0_readCommand_146 : decode cX0_readCommand 146 = .ok (.getfield 38, 3) := by decide +kernel
theorem dX0_readCommand_149 : decode cX0_readCommand 149 = .ok (.bipush (-2), 2) := by decide +kernel
theorem dX0_readCommand_151 : decode cX0_readCommand 151 = .ok (.if_icmp .eq 25, 3) := by decide +kernel
theorem dX0_readCommand_154 : decode cX0_readCommand 154 = .ok (.aload_n 0, 1) := by decide +kernel
theorem dX0_readCommand_155 : decode cX0_readCommand 155 = .ok (.getfield 50, 3) := by decide +kernel
theorem dX0_readCommand_158 : decode cX0_readCommand 158 = .ok (.bipush (-2), 2) := by decide +kernel
theorem dX0_readCommand_160 : decode cX0_readCommand 160 = .ok (.if_icmp .eq 16, 3) := by decide +kernel
theorem dX0_readCommand_163 : decode cX0_readCommand 163 = .ok (.aload_n 0, 1) := by decide +kernel
theorem dX0_readCommand_164 : decode cX0_readCommand 164 = .ok (.bipush 59, 2) := by decide +kernel
theorem dX0_readCommand_166 : decode cX0_readCommand 166 = .ok (.invokevirtual 78, 3) := by decide +kernel
theorem dX0_readCommand_169 : decode cX0_readCommand 169 = .ok (.ifCond .eq 7, 3) := by decide +kernel
theorem dX0_readCommand_172 : decode cX0_readCommand 172 = .ok (.iconst 1, 1) := by decide +kernel
theorem dX0_readCommand_173 : decode cX0_readCommand 173 = .ok (.goto 4, 3) := by decide +kernel
theorem dX0_readCommand_176 : decode cX0_readCommand 176 = .ok (.iconst 0, 1) := by decide +kernel
theorem dX0_readCommand_177 : decode cX0_readCommand 177 = .ok (.ireturn, 1) := by decide +kernel
theorem dX0_readCommand_178 : decode cX0_readCommand 178 = .ok (.aload_n 0, 1) := by decide +kernel
theorem dX0_readCommand_179 : decode cX0_readCommand 179 = .ok (.aload_n 0, 1) := by decide +kernel
theorem dX0_readCommand_180 : decode cX0_readCommand 180 = .ok (.invokevirtual 81, 3) := by decide +kernel
theorem dX0_readCommand_183 : decode cX0_readCommand 183 = .ok (.putfield 38, 3) := by decide +kernel
theorem dX0_readCommand_186 : decode cX0_readCommand 186 = .ok (.aload_n 0, 1) := by decide +kernel
theorem dX0_readCommand_187 : decode cX0_readCommand 187 = .ok (.aload_n 0, 1) := by decide +kernel
theorem dX0_readCommand_188 : decode cX0_readCommand 188 = .ok (.bipush 44, 2) := by decide +kernel
theorem dX0_readCommand_190 : decode cX0_readCommand 190 = .ok (.invokevirtual 78, 3) := by decide +kernel
theorem dX0_readCommand_193 : decode cX0_readCommand 193 = .ok (.ifCond .eq 10, 3) := by decide +kernel
theorem dX0_readCommand_196 : decode cX0_readCommand 196 = .ok (.aload_n 0, 1) := by decide +kernel
theorem dX0_readCommand_197 : decode cX0_readCommand 197 = .ok (.invokevirtual 81, 3) := by decide +kernel
theorem dX0_readCommand_200 : decode cX0_readCommand 200 = .ok (.goto 5, 3) := by decide +kernel
theorem dX0_readCommand_203 : decode cX0_readCommand 203 = .ok (.bipush (-2), 2) := by decide +kernel
theorem dX0_readCommand_205 : decode cX0_readCommand 205 = .ok (.putfield 50, 3) := by decide +kernel
theorem dX0_readCommand_208 : decode cX0_readCommand 208 = .ok (.aload_n 0, 1) := by decide +kernel
theorem dX0_readCommand_209 : decode cX0_readCommand 209 = .ok (.aload_n 0, 1) := by decide +kernel
theorem dX0_readCommand_210 : decode cX0_readCommand 210 = .ok (.bipush 44, 2) := by decide +kernel
theorem dX0_readCommand_212 : decode cX0_readCommand 212 = .ok (.invokevirtual 78, 3) := by decide +kernel
theorem dX0_readCommand_215 : decode cX0_readCommand 215 = .ok (.ifCond .eq 10, 3) := by decide +kernel
theorem dX0_readCommand_218 : decode cX0_readCommand 218 = .ok (.aload_n 0, 1) := by decide +kernel
theorem dX0_readCommand_219 : decode cX0_readCommand 219 = .ok (.invokevirtual 84, 3) := by decide +kernel
theorem dX0_readCommand_222 : decode cX0_readCommand 222 = .ok (.goto 5, 3) := by decide +kernel
theorem dX0_readCommand_225 : decode cX0_readCommand 225 = .ok (.bipush (-2), 2) := by decide +kernel
theorem dX0_readCommand_227 : decode cX0_readCommand 227 = .ok (.putfield 53, 3) := by decide +kernel
theorem dX0_readCommand_230 : decode cX0_readCommand 230 = .ok (.aload_n 0, 1) := by decide +kernel
theorem dX0_readCommand_231 : decode cX0_readCommand 231 = .ok (.getfield 38, 3) := by decide +kernel
theorem dX0_readCommand_234 : decode cX0_readCommand 234 = .ok (.bipush (-2), 2) := by decide +kernel
theorem dX0_readCommand_236 : decode cX0_readCommand 236 = .ok (.if_icmp .eq 34, 3) := by decide +kernel
theorem dX0_readCommand_239 : decode cX0_readCommand 239 = .ok (.aload_n 0, 1) := by decide +kernel
theorem dX0_readCommand_240 : decode cX0_readCommand 240 = .ok (.getfield 50, 3) := by decide +kernel
theorem dX0_readCommand_243 : decode cX0_readCommand 243 = .ok (.bipush (-2), 2) := by decide +kernel
theorem dX0_readCommand_245 : decode cX0_readCommand 245 = .ok (.if_icmp .eq 25, 3) := by decide +kernel
theorem dX0_readCommand_248 : decode cX0_readCommand 248 = .ok (.aload_n 0, 1) := by decide +kernel
theorem dX0_readCommand_249 : decode cX0_readCommand 249 = .ok (.getfield 53, 3) := by decide +kernel
theorem dX0_readCommand_252 : decode cX0_readCommand 252 = .ok (.bipush (-2), 2) := by decide +kernel
theorem dX0_readCommand_254 : decode cX0_readCommand 254 = .ok (.if_icmp .eq 16, 3) := by decide +kernel
theorem dX0_readCommand_257 : decode cX0_readCommand 257 = .ok (.aload_n 0, 1) := by decide +kernel
theorem dX0_readCommand_258 : decode cX0_readCommand 258 = .ok (.bipush 59, 2) := by decide +kernel
theorem dX0_readCommand_260 : decode cX0_readCommand 260 = .ok (.invokevirtual 78, 3) := by decide +kernel
theorem dX0_readCommand_263 : decode cX0_readCommand 263 = .ok (.ifCond .eq 7, 3) := by decide +kernel
theorem dX0_readCommand_266 : decode cX0_readCommand 266 = .ok (.iconst 1, 1) := by decide +kernel
theorem dX0_readCommand_267 : decode cX0_readCommand 267 = .ok (.goto 4, 3) := by decide +kernel
theorem dX0_readCommand_270 : decode cX0_readCommand 270 = .ok (.iconst 0, 1) := by decide +kernel
theorem dX0_readCommand_271 : decode cX0_readCommand 271 = .ok (.ireturn, 1) := by decide +kernel
theorem dX0_readCommand_272 : decode cX0_readCommand 272 = .ok (.iconst 0, 1) := by decide +kernel
theorem dX0_readCommand_273 : decode cX0_readCommand 273 = .ok (.ireturn, 1) := by decide +kernel
theorem dX0_tryOn_0 : decode cX0_tryOn 0 = .ok (.aload_n 0, 1) := by decide +kernel
theorem dX0_tryOn_1 : decode cX0_tryOn 1 = .ok (.iconst 0, 1) := by decide +kernel
theorem dX0_tryOn_2 : decode cX0_tryOn 2 = .ok (.putfield 19, 3) := by decide +kernel
theorem dX0_tryOn_5 : decode cX0_tryOn 5 = .ok (.aload_n 0, 1) := by decide +kernel
theorem dX0_tryOn_6 : decode cX0_tryOn 6 = .ok (.iconst 0, 1) := by decide +kernel
theorem dX0_tryOn_7 : decode cX0_tryOn 7 = .ok (.putfield 22, 3) := by decide +kernel
theorem dX0_tryOn_10 : decode cX0_tryOn 10 = .ok (.aload_n 0, 1) := by decide +kernel
theorem dX0_tryOn_11 : decode cX0_tryOn 11 = .ok (.iconst 0, 1) := by decide +kernel
theorem dX0_tryOn_12 : decode cX0_tryOn 12 = .ok (.putfield 25, 3) := by decide +kernel
theorem dX0_tryOn_15 : decode cX0_tryOn 15 = .ok (.iconst 0, 1) := by decide +kernel
theorem dX0_tryOn_16 : decode cX0_tryOn 16 = .ok (.istore_n 2, 1) := by decide +kernel
theorem dX0_tryOn_17 : decode cX0_tryOn 17 = .ok (.iload_n 2, 1) := by decide +kernel
theorem dX0_tryOn_18 : decode cX0_tryOn 18 = .ok (.bipush 60, 2) := by decide +kernel
theorem dX0_tryOn_20 : decode cX0_tryOn 20 = .ok (.if_icmp .ge 192, 3) := by decide +kernel
theorem dX0_tryOn_23 : decode cX0_tryOn 23 = .ok (.aload_n 0, 1) := by decide +kernel
theorem dX0_tryOn_24 : decode cX0_tryOn 24 = .ok (.getfield 19, 3) := by decide +kernel
theorem dX0_tryOn_27 : decode cX0_tryOn 27 = .ok (.aload_n 0, 1) := by decide +kernel
theorem dX0_tryOn_28 : decode cX0_tryOn 28 = .ok (.getfield 15, 3) := by decide +kernel
theorem dX0_tryOn_31 : decode cX0_tryOn 31 = .ok (.if_icmp .ge 181, 3) := by decide +kernel
theorem dX0_tryOn_34 : decode cX0_tryOn 34 = .ok (.aload_n 0, 1) := by decide +kernel
theorem dX0_tryOn_35 : decode cX0_tryOn 35 = .ok (.aload_n 0, 1) := by decide +kernel
theorem dX0_tryOn_36 : decode cX0_tryOn 36 = .ok (.getfield 19, 3) := by decide +kernel
theorem dX0_tryOn_39 : decode cX0_tryOn 39 = .ok (.putfield 28, 3) := by decide +kernel
theorem dX0_tryOn_42 : decode cX0_tryOn 42 = .ok (.aload_n 0, 1) := by decide +kernel
theorem dX0_tryOn_43 : decode cX0_tryOn 43 = .ok (.invokevirtual 31, 3) := by decide +kernel
theorem dX0_tryOn_46 : decode cX0_tryOn 46 = .ok (.ifCond .ne 9, 3) := by decide +kernel
theorem dX0_tryOn_49 : decode cX0_tryOn 49 = .ok (.aload_n 0, 1) := by decide +kernel
theorem dX0_tryOn_50 : decode cX0_tryOn 50 = .ok (.iconst 1, 1) := by decide +kernel
theorem dX0_tryOn_51 : decode cX0_tryOn 51 = .ok (.putfield 25, 3) := by decide +kernel
theorem dX0_tryOn_54 : decode cX0_tryOn 54 = .ok (.return_, 1) := by decide +kernel
theorem dX0_tryOn_55 : decode cX0_tryOn 55 = .ok (.aload_n 0, 1) := by decide +kernel
theorem dX0_tryOn_56 : decode cX0_tryOn 56 = .ok (.getfield 35, 3) := by decide +kernel
theorem dX0_tryOn_59 : decode cX0_tryOn 59 = .ok (.lookupswitch 109 #[(98, 98), (102, 56), (110, 41), (114, 79)], 41) := by decide +kernel
theorem dX0_tryOn_100 : decode cX0_tryOn 100 = .ok (.aload_n 0, 1) := by decide +kernel
theorem dX0_tryOn_101 : decode cX0_tryOn 101 = .ok (.aload_n 1, 1) := by decide +kernel
theorem dX0_tryOn_102 : decode cX0_tryOn 102 = .ok (.aload_n 0, 1) := by decide +kernel
theorem dX0_tryOn_103 : decode cX0_tryOn 103 = .ok (.getfield 38, 3) := by decide +kernel
theorem dX0_tryOn_106 : decode cX0_tryOn 106 = .ok (.invokevirtual 41, 3) := by decide +kernel
theorem dX0_tryOn_109 : decode cX0_tryOn 109 = .ok (.putfield 47, 3) := by decide +kernel
theorem dX0_tryOn_112 : decode cX0_tryOn 112 = .ok (.goto 68, 3) := by decide +kernel
theorem dX0_tryOn_115 : decode cX0_tryOn 115 = .ok (.aload_n 0, 1) := by decide +kernel
theorem dX0_tryOn_116 : decode cX0_tryOn 116 = .ok (.aload_n 1, 1) := by decide +kernel
theorem dX0_tryOn_117 : decode cX0_tryOn 117 = .ok (.aload_n 0, 1) := by decide +kernel
theorem dX0_tryOn_118 : decode cX0_tryOn 118 = .ok (.getfield 38, 3) := by decide +kernel
theorem dX0_tryOn_121 : decode cX0_tryOn 121 = .ok (.aload_n 0, 1) := by decide +kernel
theorem dX0_tryOn_122 : decode cX0_tryOn 122 = .ok (.getfield 50, 3) := by decide +kernel
theorem dX0_tryOn_125 : decode cX0_tryOn 125 = .ok (.aload_n 0, 1) := by decide +kernel
theorem dX0_tryOn_126 : decode cX0_tryOn 126 = .ok (.getfield 53, 3) := by decide +kernel
theorem dX0_tryOn_129 : decode cX0_tryOn 129 = .ok (.invokevirtual 56, 3) := by decide +kernel
theorem dX0_tryOn_132 : decode cX0_tryOn 132 = .ok (.putfield 47, 3) := by decide +kernel
theorem dX0_tryOn_135 : decode cX0_tryOn 135 = .ok (.goto 45, 3) := by decide +kernel
theorem dX0_tryOn_138 : decode cX0_tryOn 138 = .ok (.aload_n 0, 1) := by decide +kernel
theorem dX0_tryOn_139 : decode cX0_tryOn 139 = .ok (.aload_n 1, 1) := by decide +kernel
theorem dX0_tryOn_140 : decode cX0_tryOn 140 = .ok (.aload_n 0, 1) := by decide +kernel
theorem dX0_tryOn_141 : decode cX0_tryOn 141 = .ok (.getfield 38, 3) := by decide +kernel
theorem dX0_tryOn_144 : decode cX0_tryOn 144 = .ok (.aload_n 0, 1) := by decide +kernel
theorem dX0_tryOn_145 : decode cX0_tryOn 145 = .ok (.getfield 50, 3) := by decide +kernel
theorem dX0_tryOn_148 : decode cX0_tryOn 148 = .ok (.invokevirtual 60, 3) := by decide +kernel
theorem dX0_tryOn_151 : decode cX0_tryOn 151 = .ok (.putfield 47, 3) := by decide +kernel
theorem dX0_tryOn_154 : decode cX0_tryOn 154 = .ok (.goto 26, 3) := by decide +kernel
theorem dX0_tryOn_157 : decode cX0_tryOn 157 = .ok (.aload_n 0, 1) := by decide +kernel
theorem dX0_tryOn_158 : decode cX0_tryOn 158 = .ok (.aload_n 1, 1) := by decide +kernel
theorem dX0_tryOn_159 : decode cX0_tryOn 159 = .ok (.invokevirtual 64, 3) := by decide +kernel
theorem dX0_tryOn_162 : decode cX0_tryOn 162 = .ok (.putfield 47, 3) := by decide +kernel
theorem dX0_tryOn_165 : decode cX0_tryOn 165 = .ok (.goto 15, 3) := by decide +kernel
theorem dX0_tryOn_168 : decode cX0_tryOn 168 = .ok (.aload_n 0, 1) := by decide +kernel
theorem dX0_tryOn_169 : decode cX0_tryOn 169 = .ok (.aload_n 1, 1) := by decide +kernel
theorem dX0_tryOn_170 : decode cX0_tryOn 170 = .ok (.aload_n 0, 1) := by decide +kernel
theorem dX0_tryOn_171 : decode cX0_tryOn 171 = .ok (.getfield 38, 3) := by decide +kernel
theorem dX0_tryOn_174 : decode cX0_tryOn 174 = .ok (.invokevirtual 68, 3) := by decide +kernel
theorem dX0_tryOn_177 : decode cX0_tryOn 177 = .ok (.putfield 47, 3) := by decide +kernel
theorem dX0_tryOn_180 : decode cX0_tryOn 180 = .ok (.aload_n 0, 1) := by decide +kernel
theorem dX0_tryOn_181 : decode cX0_tryOn 181 = .ok (.getfield 47, 3) := by decide +kernel
theorem dX0_tryOn_184 : decode cX0_tryOn 184 = .ok (.invokestatic 71, 3) := by decide +kernel
theorem dX0_tryOn_187 : decode cX0_tryOn 187 = .ok (.ifCond .eq 9, 3) := by decide +kernel
theorem dX0_tryOn_190 : decode cX0_tryOn 190 = .ok (.aload_n 0, 1) := by decide +kernel
theorem dX0_tryOn_191 : decode cX0_tryOn 191 = .ok (.iconst 2, 1) := by decide +kernel
theorem dX0_tryOn_192 : decode cX0_tryOn 192 = .ok (.putfield 25, 3) := by decide +kernel
theorem dX0_tryOn_195 : decode cX0_tryOn 195 = .ok (.return_, 1) := by decide +kernel
theorem dX0_tryOn_196 : decode cX0_tryOn 196 = .ok (.aload_n 0, 1) := by decide +kernel
theorem dX0_tryOn_197 : decode cX0_tryOn 197 = .ok (.dup, 1) := by decide +kernel
theorem dX0_tryOn_198 : decode cX0_tryOn 198 = .ok (.getfield 22, 3) := by decide +kernel
theorem dX0_tryOn_201 : decode cX0_tryOn 201 = .ok (.iconst 1, 1) := by decide +kernel
theorem dX0_tryOn_202 : decode cX0_tryOn 202 = .ok (.iadd, 1) := by decide +kernel
theorem dX0_tryOn_203 : decode cX0_tryOn 203 = .ok (.putfield 22, 3) := by decide +kernel
theorem dX0_tryOn_206 : decode cX0_tryOn 206 = .ok (.iinc 2 1, 3) := by decide +kernel
theorem dX0_tryOn_209 : decode cX0_tryOn 209 = .ok (.goto (-192), 3) := by decide +kernel
theorem dX0_tryOn_212 : decode cX0_tryOn 212 = .ok (.return_, 1) := by decide +kernel
theorem dX3_copyFrom_0 : decode cX3_copyFrom 0 = .ok (.aload_n 1, 1) := by decide +kernel
theorem dX3_copyFrom_1 : decode cX3_copyFrom 1 = .ok (.getfield 9, 3) := by decide +kernel
theorem dX3_copyFrom_4 : decode cX3_copyFrom 4 = .ok (.iconst 0, 1) := by decide +kernel
theorem dX3_copyFrom_5 : decode cX3_copyFrom 5 = .ok (.aload_n 0, 1) := by decide +kernel
theorem dX3_copyFrom_6 : decode cX3_copyFrom 6 = .ok (.getfield 9, 3) := by decide +kernel
theorem dX3_copyFrom_9 : decode cX3_copyFrom 9 = .ok (.iconst 0, 1) := by decide +kernel
theorem dX3_copyFrom_10 : decode cX3_copyFrom 10 = .ok (.bipush 24, 2) := by decide +kernel
theorem dX3_copyFrom_12 : decode cX3_copyFrom 12 = .ok (.invokestatic 23, 3) := by decide +kernel
theorem dX3_copyFrom_15 : decode cX3_copyFrom 15 = .ok (.aload_n 0, 1) := by decide +kernel
theorem dX3_copyFrom_16 : decode cX3_copyFrom 16 = .ok (.aload_n 1, 1) := by decide +kernel
theorem dX3_copyFrom_17 : decode cX3_copyFrom 17 = .ok (.getfield 15, 3) := by decide +kernel
theorem dX3_copyFrom_20 : decode cX3_copyFrom 20 = .ok (.putfield 15, 3) := by decide +kernel
theorem dX3_copyFrom_23 : decode cX3_copyFrom 23 = .ok (.return_, 1) := by decide +kernel
theorem dX1_copyFrom_0 : decode cX1_copyFrom 0 = .ok (.aload_n 0, 1) := by decide +kernel
theorem dX1_copyFrom_1 : decode cX1_copyFrom 1 = .ok (.aload_n 1, 1) := by decide +kernel
theorem dX1_copyFrom_2 : decode cX1_copyFrom 2 = .ok (.getfield 34, 3) := by decide +kernel
theorem dX1_copyFrom_5 : decode cX1_copyFrom 5 = .ok (.putfield 34, 3) := by decide +kernel
theorem dX1_copyFrom_8 : decode cX1_copyFrom 8 = .ok (.aload_n 0, 1) := by decide +kernel
theorem dX1_copyFrom_9 : decode cX1_copyFrom 9 = .ok (.aload_n 1, 1) := by decide +kernel
theorem dX1_copyFrom_10 : decode cX1_copyFrom 10 = .ok (.getfield 65, 3) := by decide +kernel
theorem dX1_copyFrom_13 : decode cX1_copyFrom 13 = .ok (.putfield 65, 3) := by decide +kernel
theorem dX1_copyFrom_16 : decode cX1_copyFrom 16 = .ok (.aload_n 1, 1) := by decide +kernel
theorem dX1_copyFrom_17 : decode cX1_copyFrom 17 = .ok (.getfield 9, 3) := by decide +kernel
theorem dX1_copyFrom_20 : decode cX1_copyFrom 20 = .ok (.iconst 0, 1) := by decide +kernel
theorem dX1_copyFrom_21 : decode cX1_copyFrom 21 = .ok (.aload_n 0, 1) := by decide +kernel
theorem dX1_copyFrom_22 : decode cX1_copyFrom 22 = .ok (.getfield 9, 3) := by decide +kernel
theorem dX1_copyFrom_25 : decode cX1_copyFrom 25 = .ok (.iconst 0, 1) := by decide +kernel
theorem dX1_copyFrom_26 : decode cX1_copyFrom 26 = .ok (.bipush 72, 2) := by decide +kernel
theorem dX1_copyFrom_28 : decode cX1_copyFrom 28 = .ok (.invokestatic 88, 3) := by decide +kernel
theorem dX1_copyFrom_31 : decode cX1_copyFrom 31 = .ok (.aload_n 1, 1) := by decide +kernel
theorem dX1_copyFrom_32 : decode cX1_copyFrom 32 = .ok (.getfield 15, 3) := by decide +kernel
theorem dX1_copyFrom_35 : decode cX1_copyFrom 35 = .ok (.iconst 0, 1) := by decide +kernel
theorem dX1_copyFrom_36 : decode cX1_copyFrom 36 = .ok (.aload_n 0, 1) := by decide +kernel
theorem dX1_copyFrom_37 : decode cX1_copyFrom 37 = .ok (.getfield 15, 3) := by decide +kernel
theorem dX1_copyFrom_40 : decode cX1_copyFrom 40 = .ok (.iconst 0, 1) := by decide +kernel
theorem dX1_copyFrom_41 : decode cX1_copyFrom 41 = .ok (.iconst 4, 1) := by decide +kernel
theorem dX1_copyFrom_42 : decode cX1_copyFrom 42 = .ok (.invokestatic 88, 3) := by decide +kernel
theorem dX1_copyFrom_45 : decode cX1_copyFrom 45 = .ok (.aload_n 1, 1) := by decide +kernel
theorem dX1_copyFrom_46 : decode cX1_copyFrom 46 = .ok (.getfield 18, 3) := by decide +kernel
theorem dX1_copyFrom_49 : decode cX1_copyFrom 49 = .ok (.iconst 0, 1) := by decide +kernel
theorem dX1_copyFrom_50 : decode cX1_copyFrom 50 = .ok (.aload_n 0, 1) := by decide +kernel
theorem dX1_copyFrom_51 : decode cX1_copyFrom 51 = .ok (.getfield 18, 3) := by decide +kernel
theorem dX1_copyFrom_54 : decode cX1_copyFrom 54 = .ok (.iconst 0, 1) := by decide +kernel
theorem dX1_copyFrom_55 : decode cX1_copyFrom 55 = .ok (.iconst 4, 1) := by decide +kernel
theorem dX1_copyFrom_56 : decode cX1_copyFrom 56 = .ok (.invokestatic 88, 3) := by decide +kernel
theorem dX1_copyFrom_59 : decode cX1_copyFrom 59 = .ok (.aload_n 0, 1) := by decide +kernel
theorem dX1_copyFrom_60 : decode cX1_copyFrom 60 = .ok (.getfield 24, 3) := by decide +kernel
theorem dX1_copyFrom_63 : decode cX1_copyFrom 63 = .ok (.aload_n 1, 1) := by decide +kernel
theorem dX1_copyFrom_64 : decode cX1_copyFrom 64 = .ok (.getfield 24, 3) := by decide +kernel
theorem dX1_copyFrom_67 : decode cX1_copyFrom 67 = .ok (.invokevirtual 94, 3) := by decide +kernel
theorem dX1_copyFrom_70 : decode cX1_copyFrom 70 = .ok (.return_, 1) := by decide +kernel
theorem dX4_copyFrom_0 : decode cX4_copyFrom 0 = .ok (.aload_n 0, 1) := by decide +kernel
theorem dX4_copyFrom_1 : decode cX4_copyFrom 1 = .ok (.aload_n 1, 1) := by decide +kernel
theorem dX4_copyFrom_2 : decode cX4_copyFrom 2 = .ok (.getfield 9, 3) := by decide +kernel
theorem dX4_copyFrom_5 : decode cX4_copyFrom 5 = .ok (.putfield 9, 3) := by decide +kernel
theorem dX4_copyFrom_8 : decode cX4_copyFrom 8 = .ok (.aload_n 0, 1) := by decide +kernel
theorem dX4_copyFrom_9 : decode cX4_copyFrom 9 = .ok (.aload_n 1, 1) := by decide +kernel
theorem dX4_copyFrom_10 : decode cX4_copyFrom 10 = .ok (.getfield 33, 3) := by decide +kernel
theorem dX4_copyFrom_13 : decode cX4_copyFrom 13 = .ok (.putfield 33, 3) := by decide +kernel
theorem dX4_copyFrom_16 : decode cX4_copyFrom 16 = .ok (.aload_n 0, 1) := by decide +kernel
theorem dX4_copyFrom_17 : decode cX4_copyFrom 17 = .ok (.aload_n 1, 1) := by decide +kernel
theorem dX4_copyFrom_18 : decode cX4_copyFrom 18 = .ok (.getfield 22, 3) := by decide +kernel
theorem dX4_copyFrom_21 : decode cX4_copyFrom 21 = .ok (.putfield 22, 3) := by decide +kernel
theorem dX4_copyFrom_24 : decode cX4_copyFrom 24 = .ok (.aload_n 0, 1) := by decide +kernel
theorem dX4_copyFrom_25 : decode cX4_copyFrom 25 = .ok (.getfield 18, 3) := by decide +kernel
theorem dX4_copyFrom_28 : decode cX4_copyFrom 28 = .ok (.aload_n 1, 1) := by decide +kernel
theorem dX4_copyFrom_29 : decode cX4_copyFrom 29 = .ok (.getfield 18, 3) := by decide +kernel
theorem dX4_copyFrom_32 : decode cX4_copyFrom 32 = .ok (.invokevirtual 113, 3) := by decide +kernel
theorem dX4_copyFrom_35 : decode cX4_copyFrom 35 = .ok (.aload_n 0, 1) := by decide +kernel
theorem dX4_copyFrom_36 : decode cX4_copyFrom 36 = .ok (.aload_n 1, 1) := by decide +kernel
theorem dX4_copyFrom_37 : decode cX4_copyFrom 37 = .ok (.getfield 49, 3) := by decide +kernel
theorem dX4_copyFrom_40 : decode cX4_copyFrom 40 = .ok (.putfield 49, 3) := by decide +kernel
theorem dX4_copyFrom_43 : decode cX4_copyFrom 43 = .ok (.aload_n 0, 1) := by decide +kernel
theorem dX4_copyFrom_44 : decode cX4_copyFrom 44 = .ok (.aload_n 1, 1) := by decide +kernel
theorem dX4_copyFrom_45 : decode cX4_copyFrom 45 = .ok (.getfield 52, 3) := by decide +kernel
theorem dX4_copyFrom_48 : decode cX4_copyFrom 48 = .ok (.putfield 52, 3) := by decide +kernel
theorem dX4_copyFrom_51 : decode cX4_copyFrom 51 = .ok (.aload_n 0, 1) := by decide +kernel
theorem dX4_copyFrom_52 : decode cX4_copyFrom 52 = .ok (.aload_n 1, 1) := by decide +kernel
theorem dX4_copyFrom_53 : decode cX4_copyFrom 53 = .ok (.getfield 55, 3) := by decide +kernel
theorem dX4_copyFrom_56 : decode cX4_copyFrom 56 = .ok (.putfield 55, 3) := by decide +kernel
theorem dX4_copyFrom_59 : decode cX4_copyFrom 59 = .ok (.aload_n 0, 1) := by decide +kernel
theorem dX4_copyFrom_60 : decode cX4_copyFrom 60 = .ok (.aload_n 1, 1) := by decide +kernel
theorem dX4_copyFrom_61 : decode cX4_copyFrom 61 = .ok (.getfield 58, 3) := by decide +kernel
theorem dX4_copyFrom_64 : decode cX4_copyFrom 64 = .ok (.putfield 58, 3) := by decide +kernel
theorem dX4_copyFrom_67 : decode cX4_copyFrom 67 = .ok (.aload_n 0, 1) := by decide +kernel
theorem dX4_copyFrom_68 : decode cX4_copyFrom 68 = .ok (.aload_n 1, 1) := by decide +kernel
theorem dX4_copyFrom_69 : decode cX4_copyFrom 69 = .ok (.getfield 110, 3) := by decide +kernel
theorem dX4_copyFrom_72 : decode cX4_copyFrom 72 = .ok (.putfield 110, 3) := by decide +kernel
theorem dX4_copyFrom_75 : decode cX4_copyFrom 75 = .ok (.return_, 1) := by decide +kernel
theorem dX5_copyFrom_0 : decode cX5_copyFrom 0 = .ok (.aload_n 0, 1) := by decide +kernel
theorem dX5_copyFrom_1 : decode cX5_copyFrom 1 = .ok (.getfield 12, 3) := by decide +kernel
theorem dX5_copyFrom_4 : decode cX5_copyFrom 4 = .ok (.aload_n 1, 1) := by decide +kernel
theorem dX5_copyFrom_5 : decode cX5_copyFrom 5 = .ok (.getfield 12, 3) := by decide +kernel
theorem dX5_copyFrom_8 : decode cX5_copyFrom 8 = .ok (.invokevirtual 182, 3) := by decide +kernel
theorem dX5_copyFrom_11 : decode cX5_copyFrom 11 = .ok (.aload_n 0, 1) := by decide +kernel
theorem dX5_copyFrom_12 : decode cX5_copyFrom 12 = .ok (.getfield 21, 3) := by decide +kernel
theorem dX5_copyFrom_15 : decode cX5_copyFrom 15 = .ok (.aload_n 1, 1) := by decide +kernel
theorem dX5_copyFrom_16 : decode cX5_copyFrom 16 = .ok (.getfield 21, 3) := by decide +kernel
theorem dX5_copyFrom_19 : decode cX5_copyFrom 19 = .ok (.invokevirtual 185, 3) := by decide +kernel
theorem dX5_copyFrom_22 : decode cX5_copyFrom 22 = .ok (.aload_n 1, 1) := by decide +kernel
theorem dX5_copyFrom_23 : decode cX5_copyFrom 23 = .ok (.getfield 25, 3) := by decide +kernel
theorem dX5_copyFrom_26 : decode cX5_copyFrom 26 = .ok (.iconst 0, 1) := by decide +kernel
theorem dX5_copyFrom_27 : decode cX5_copyFrom 27 = .ok (.aload_n 0, 1) := by decide +kernel
theorem dX5_copyFrom_28 : decode cX5_copyFrom 28 = .ok (.getfield 25, 3) := by decide +kernel
theorem dX5_copyFrom_31 : decode cX5_copyFrom 31 = .ok (.iconst 0, 1) := by decide +kernel
theorem dX5_copyFrom_32 : decode cX5_copyFrom 32 = .ok (.bipush 24, 2) := by decide +kernel
theorem dX5_copyFrom_34 : decode cX5_copyFrom 34 = .ok (.invokestatic 188, 3) := by decide +kernel
theorem dX5_copyFrom_37 : decode cX5_copyFrom 37 = .ok (.aload_n 0, 1) := by decide +kernel
theorem dX5_copyFrom_38 : decode cX5_copyFrom 38 = .ok (.aload_n 1, 1) := by decide +kernel
theorem dX5_copyFrom_39 : decode cX5_copyFrom 39 = .ok (.getfield 29, 3) := by decide +kernel
theorem dX5_copyFrom_42 : decode cX5_copyFrom 42 = .ok (.putfield 29, 3) := by decide +kernel
theorem dX5_copyFrom_45 : decode cX5_copyFrom 45 = .ok (.aload_n 0, 1) := by decide +kernel
theorem dX5_copyFrom_46 : decode cX5_copyFrom 46 = .ok (.aload_n 1, 1) := by decide +kernel
theorem dX5_copyFrom_47 : decode cX5_copyFrom 47 = .ok (.getfield 41, 3) := by decide +kernel
theorem dX5_copyFrom_50 : decode cX5_copyFrom 50 = .ok (.putfield 41, 3) := by decide +kernel
theorem dX5_copyFrom_53 : decode cX5_copyFrom 53 = .ok (.aload_n 0, 1) := by decide +kernel
theorem dX5_copyFrom_54 : decode cX5_copyFrom 54 = .ok (.aload_n 1, 1) := by decide +kernel
theorem dX5_copyFrom_55 : decode cX5_copyFrom 55 = .ok (.getfield 113, 3) := by decide +kernel
theorem dX5_copyFrom_58 : decode cX5_copyFrom 58 = .ok (.putfield 113, 3) := by decide +kernel
theorem dX5_copyFrom_61 : decode cX5_copyFrom 61 = .ok (.return_, 1) := by decide +kernel
end
section
theorem dX7_in_0 : decode cX7_in 0 = .ok (.iload_n 0, 1) := by decide +kernel
theorem dX7_in_1 : decode cX7_in 1 = .ok (.iload_n 1, 1) := by decide +kernel
theorem dX7_in_2 : decode cX7_in 2 = .ok (.if_icmp .lt 12, 3) := by decide +kernel
theorem dX7_in_5 : decode cX7_in 5 = .ok (.iload_n 0, 1) := by decide +kernel
theorem dX7_in_6 : decode cX7_in 6 = .ok (.iload_n 2, 1) := by decide +kernel
theorem dX7_in_7 : decode cX7_in 7 = .ok (.if_icmp .gt 7, 3) := by decide +kernel
theorem dX7_in_10 : decode cX7_in 10 = .ok (.iconst 1, 1) := by decide +kernel
theorem dX7_in_11 : decode cX7_in 11 = .ok (.goto 4, 3) := by decide +kernel
theorem dX7_in_14 : decode cX7_in 14 = .ok (.iconst 0, 1) := by decide +kernel
theorem dX7_in_15 : decode cX7_in 15 = .ok (.ireturn, 1) := by decide +kernel
theorem dX7_isRoot_0 : decode cX7_isRoot 0 = .ok (.iload_n 0, 1) := by decide +kernel
theorem dX7_isRoot_1 : decode cX7_isRoot 1 = .ok (.iconst 0, 1) := by decide +kernel
theorem dX7_isRoot_2 : decode cX7_isRoot 2 = .ok (.iconst 3, 1) := by decide +kernel
theorem dX7_isRoot_3 : decode cX7_isRoot 3 = .ok (.invokestatic 39, 3) := by decide +kernel
theorem dX7_isRoot_6 : decode cX7_isRoot 6 = .ok (.ireturn, 1) := by decide +kernel
theorem dX7_ones_0 : decode cX7_ones 0 = .ok (.iconst 0, 1) := by decide +kernel
theorem dX7_ones_1 : decode cX7_ones 1 = .ok (.istore_n 1, 1) := by decide +kernel
theorem dX7_ones_2 : decode cX7_ones 2 = .ok (.iconst 0, 1) := by decide +kernel
theorem dX7_ones_3 : decode cX7_ones 3 = .ok (.istore_n 2, 1) := by decide +kernel
theorem dX7_ones_4 : decode cX7_ones 4 = .ok (.iload_n 2, 1) := by decide +kernel
theorem dX7_ones_5 : decode cX7_ones 5 = .ok (.bipush 24, 2) := by decide +kernel
theorem dX7_ones_7 : decode cX7_ones 7 = .ok (.if_icmp .ge 17, 3) := by decide +kernel
theorem dX7_ones_10 : decode cX7_ones 10 = .ok (.iload_n 1, 1) := by decide +kernel
theorem dX7_ones_11 : decode cX7_ones 11 = .ok (.iload_n 0, 1) := by decide +kernel
theorem dX7_ones_12 : decode cX7_ones 12 = .ok (.iload_n 2, 1) := by decide +kernel
theorem dX7_ones_13 : decode cX7_ones 13 = .ok (.ishr, 1) := by decide +kernel
theorem dX7_ones_14 : decode cX7_ones 14 = .ok (.iconst 1, 1) := by decide +kernel
theorem dX7_ones_15 : decode cX7_ones 15 = .ok (.iand, 1) := by decide +kernel
theorem dX7_ones_16 : decode cX7_ones 16 = .ok (.iadd, 1) := by decide +kernel
theorem dX7_ones_17 : decode cX7_ones 17 = .ok (.istore_n 1, 1) := by decide +kernel
theorem dX7_ones_18 : decode cX7_ones 18 = .ok (.iinc 2 1, 3) := by decide +kernel
theorem dX7_ones_21 : decode cX7_ones 21 = .ok (.goto (-17), 3) := by decide +kernel
theorem dX7_ones_24 : decode cX7_ones 24 = .ok (.iload_n 1, 1) := by decide +kernel
theorem dX7_ones_25 : decode cX7_ones 25 = .ok (.ireturn, 1) := by decide +kernel
theorem dX7_copies_0 : decode cX7_copies 0 = .ok (.iconst 0, 1) := by decide +kernel
theorem dX7_copies_1 : decode cX7_copies 1 = .ok (.istore_n 2, 1) := by decide +kernel
theorem dX7_copies_2 : decode cX7_copies 2 = .ok (.iload_n 2, 1) := by decide +kernel
theorem dX7_copies_3 : decode cX7_copies 3 = .ok (.sipush 235, 3) := by decide +kernel
theorem dX7_copies_6 : decode cX7_copies 6 = .ok (.if_icmp .ge 15, 3) := by decide +kernel
theorem dX7_copies_9 : decode cX7_copies 9 = .ok (.aload_n 1, 1) := by decide +kernel
theorem dX7_copies_10 : decode cX7_copies 10 = .ok (.iload_n 2, 1) := by decide +kernel
theorem dX7_copies_11 : decode cX7_copies 11 = .ok (.aload_n 0, 1) := by decide +kernel
theorem dX7_copies_12 : decode cX7_copies 12 = .ok (.iload_n 2, 1) := by decide +kernel
theorem dX7_copies_13 : decode cX7_copies 13 = .ok (.iaload, 1) := by decide +kernel
theorem dX7_copies_14 : decode cX7_copies 14 = .ok (.iastore, 1) := by decide +kernel
theorem dX7_copies_15 : decode cX7_copies 15 = .ok (.iinc 2 1, 3) := by decide +kernel
theorem dX7_copies_18 : decode cX7_copies 18 = .ok (.goto (-16), 3) := by decide +kernel
theorem dX7_copies_21 : decode cX7_copies 21 = .ok (.return_, 1) := by decide +kernel
theorem dX7_changes_0 : decode cX7_changes 0 = .ok (.aload_n 0, 1) := by decide +kernel
theorem dX7_changes_1 : decode cX7_changes 1 = .ok (.getfield 31, 3) := by decide +kernel
theorem dX7_changes_4 : decode cX7_changes 4 = .ok (.ifCond .eq 4, 3) := by decide +kernel
theorem dX7_changes_7 : decode cX7_changes 7 = .ok (.return_, 1) := by decide +kernel
theorem dX7_changes_8 : decode cX7_changes 8 = .ok (.aload_n 0, 1) := by decide +kernel
theorem dX7_changes_9 : decode cX7_changes 9 = .ok (.getfield 35, 3) := by decide +kernel
theorem dX7_changes_12 : decode cX7_changes 12 = .ok (.iconst 4, 1) := by decide +kernel
theorem dX7_changes_13 : decode cX7_changes 13 = .ok (.if_icmp .ne 44, 3) := by decide +kernel
theorem dX7_changes_16 : decode cX7_changes 16 = .ok (.iconst 0, 1) := by decide +kernel
theorem dX7_changes_17 : decode cX7_changes 17 = .ok (.istore_n 1, 1) := by decide +kernel
theorem dX7_changes_18 : decode cX7_changes 18 = .ok (.iload_n 1, 1) := by decide +kernel
theorem dX7_changes_19 : decode cX7_changes 19 = .ok (.sipush 705, 3) := by decide +kernel
theorem dX7_changes_22 : decode cX7_changes 22 = .ok (.if_icmp .ge 25, 3) := by decide +kernel
theorem dX7_changes_25 : decode cX7_changes 25 = .ok (.aload_n 0, 1) := by decide +kernel
theorem dX7_changes_26 : decode cX7_changes 26 = .ok (.getfield 13, 3) := by decide +kernel
theorem dX7_changes_29 : decode cX7_changes 29 = .ok (.iload_n 1, 1) := by decide +kernel
theorem dX7_changes_30 : decode cX7_changes 30 = .ok (.aload_n 0, 1) := by decide +kernel
theorem dX7_changes_31 : decode cX7_changes 31 = .ok (.getfield 13, 3) := by decide +kernel
theorem dX7_changes_34 : decode cX7_changes 34 = .ok (.iload_n 1, 1) := by decide +kernel
theorem dX7_changes_35 : decode cX7_changes 35 = .ok (.sipush 235, 3) := by decide +kernel
theorem dX7_changes_38 : decode cX7_changes 38 = .ok (.iadd, 1) := by decide +kernel
theorem dX7_changes_39 : decode cX7_changes 39 = .ok (.iaload, 1) := by decide +kernel
theorem dX7_changes_40 : decode cX7_changes 40 = .ok (.iastore, 1) := by decide +kernel
theorem dX7_changes_41 : decode cX7_changes 41 = .ok (.iinc 1 1, 3) := by decide +kernel
theorem dX7_changes_44 : decode cX7_changes 44 = .ok (.goto (-26), 3) := by decide +kernel
theorem dX7_changes_47 : decode cX7_changes 47 = .ok (.aload_n 0, 1) := by decide +kernel
theorem dX7_changes_48 : decode cX7_changes 48 = .ok (.dup, 1) := by decide +kernel
theorem dX7_changes_49 : decode cX7_changes 49 = .ok (.getfield 35, 3) := by decide +kernel
theorem dX7_changes_52 : decode cX7_changes 52 = .ok (.iconst 1, 1) := by decide +kernel
theorem dX7_changes_53 : decode cX7_changes 53 = .ok (.isub, 1) := by decide +kernel
theorem dX7_changes_54 : decode cX7_changes 54 = .ok (.putfield 35, 3) := by decide +kernel
theorem dX7_changes_57 : decode cX7_changes 57 = .ok (.iconst 0, 1) := by decide +kernel
theorem dX7_changes_58 : decode cX7_changes 58 = .ok (.istore_n 1, 1) := by decide +kernel
theorem dX7_changes_59 : decode cX7_changes 59 = .ok (.iload_n 1, 1) := by decide +kernel
theorem dX7_changes_60 : decode cX7_changes 60 = .ok (.sipush 235, 3) := by decide +kernel
theorem dX7_changes_63 : decode cX7_changes 63 = .ok (.if_icmp .ge 30, 3) := by decide +kernel
theorem dX7_changes_66 : decode cX7_changes 66 = .ok (.aload_n 0, 1) := by decide +kernel
theorem dX7_changes_67 : decode cX7_changes 67 = .ok (.getfield 13, 3) := by decide +kernel
theorem dX7_changes_70 : decode cX7_changes 70 = .ok (.sipush 235, 3) := by decide +kernel
theorem dX7_changes_73 : decode cX7_changes 73 = .ok (.aload_n 0, 1) := by decide +kernel
theorem dX7_changes_74 : decode cX7_changes 74 = .ok (.getfield 35, 3) := by decide +kernel
theorem dX7_changes_77 : decode cX7_changes 77 = .ok (.imul, 1) := by decide +kernel
theorem dX7_changes_78 : decode cX7_changes 78 = .ok (.iload_n 1, 1) := by decide +kernel
theorem dX7_changes_79 : decode cX7_changes 79 = .ok (.iadd, 1) := by decide +kernel
theorem dX7_changes_80 : decode cX7_changes 80 = .ok (.aload_n 0, 1) := by decide +kernel
theorem dX7_changes_81 : decode cX7_changes 81 = .ok (.getfield 7, 3) := by decide +kernel
theorem dX7_changes_84 : decode cX7_changes 84 = .ok (.iload_n 1, 1) := by decide +kernel
theorem dX7_changes_85 : decode cX7_changes 85 = .ok (.iaload, 1) := by decide +kernel
theorem dX7_changes_86 : decode cX7_changes 86 = .ok (.iastore, 1) := by decide +kernel
theorem dX7_changes_87 : decode cX7_changes 87 = .ok (.iinc 1 1, 3) := by decide +kernel
theorem dX7_changes_90 : decode cX7_changes 90 = .ok (.goto (-31), 3) := by decide +kernel
theorem dX7_changes_93 : decode cX7_changes 93 = .ok (.aload_n 0, 1) := by decide +kernel
theorem dX7_changes_94 : decode cX7_changes 94 = .ok (.dup, 1) := by decide +kernel
theorem dX7_changes_95 : decode cX7_changes 95 = .ok (.getfield 35, 3) := by decide +kernel
theorem dX7_changes_98 : decode cX7_changes 98 = .ok (.iconst 1, 1) := by decide +kernel
theorem dX7_changes_99 : decode cX7_changes 99 = .ok (.iadd, 1) := by decide +kernel
theorem dX7_changes_100 : decode cX7_changes 100 = .ok (.putfield 35, 3) := by decide +kernel
theorem dX7_changes_103 : decode cX7_changes 103 = .ok (.return_, 1) := by decide +kernel
theorem dX7_of_0 : decode cX7_of 0 = .ok (.aload_n 0, 1) := by decide +kernel
theorem dX7_of_1 : decode cX7_of 1 = .ok (.getfield 7, 3) := by decide +kernel
theorem dX7_of_4 : decode cX7_of 4 = .ok (.bipush 7, 2) := by decide +kernel
theorem dX7_of_6 : decode cX7_of 6 = .ok (.iload_n 1, 1) := by decide +kernel
theorem dX7_of_7 : decode cX7_of 7 = .ok (.imul, 1) := by decide +kernel
theorem dX7_of_8 : decode cX7_of 8 = .ok (.iload_n 2, 1) := by decide +kernel
theorem dX7_of_9 : decode cX7_of 9 = .ok (.iadd, 1) := by decide +kernel
theorem dX7_of_10 : decode cX7_of 10 = .ok (.iaload, 1) := by decide +kernel
theorem dX7_of_11 : decode cX7_of 11 = .ok (.ireturn, 1) := by decide +kernel
theorem dX7_sets_0 : decode cX7_sets 0 = .ok (.aload_n 0, 1) := by decide +kernel
theorem dX7_sets_1 : decode cX7_sets 1 = .ok (.getfield 7, 3) := by decide +kernel
theorem dX7_sets_4 : decode cX7_sets 4 = .ok (.bipush 7, 2) := by decide +kernel
theorem dX7_sets_6 : decode cX7_sets 6 = .ok (.iload_n 1, 1) := by decide +kernel
theorem dX7_sets_7 : decode cX7_sets 7 = .ok (.imul, 1) := by decide +kernel
theorem dX7_sets_8 : decode cX7_sets 8 = .ok (.iload_n 2, 1) := by decide +kernel
theorem dX7_sets_9 : decode cX7_sets 9 = .ok (.iadd, 1) := by decide +kernel
theorem dX7_sets_10 : decode cX7_sets 10 = .ok (.iload_n 3, 1) := by decide +kernel
theorem dX7_sets_11 : decode cX7_sets 11 = .ok (.iastore, 1) := by decide +kernel
theorem dX7_sets_12 : decode cX7_sets 12 = .ok (.return_, 1) := by decide +kernel
theorem dX7_shades_0 : decode cX7_shades 0 = .ok (.iload_n 1, 1) := by decide +kernel
theorem dX7_shades_1 : decode cX7_shades 1 = .ok (.ifCond .lt 49, 3) := by decide +kernel
theorem dX7_shades_4 : decode cX7_shades 4 = .ok (.aload_n 0, 1) := by decide +kernel
theorem dX7_shades_5 : decode cX7_shades 5 = .ok (.iload_n 1, 1) := by decide +kernel
theorem dX7_shades_6 : decode cX7_shades 6 = .ok (.iconst 5, 1) := by decide +kernel
theorem dX7_shades_7 : decode cX7_shades 7 = .ok (.invokevirtual 43, 3) := by decide +kernel
theorem dX7_shades_10 : decode cX7_shades 10 = .ok (.ifCond .ne 40, 3) := by decide +kernel
theorem dX7_shades_13 : decode cX7_shades 13 = .ok (.aload_n 0, 1) := by decide +kernel
theorem dX7_shades_14 : decode cX7_shades 14 = .ok (.iload_n 1, 1) := by decide +kernel
theorem dX7_shades_15 : decode cX7_shades 15 = .ok (.iconst 5, 1) := by decide +kernel
theorem dX7_shades_16 : decode cX7_shades 16 = .ok (.iconst 1, 1) := by decide +kernel
theorem dX7_shades_17 : decode cX7_shades 17 = .ok (.invokevirtual 58, 3) := by decide +kernel
theorem dX7_shades_20 : decode cX7_shades 20 = .ok (.aload_n 0, 1) := by decide +kernel
theorem dX7_shades_21 : decode cX7_shades 21 = .ok (.getfield 7, 3) := by decide +kernel
theorem dX7_shades_24 : decode cX7_shades 24 = .ok (.sipush 168, 3) := by decide +kernel
theorem dX7_shades_27 : decode cX7_shades 27 = .ok (.dup2, 1) := by decide +kernel
theorem dX7_shades_28 : decode cX7_shades 28 = .ok (.iaload, 1) := by decide +kernel
theorem dX7_shades_29 : decode cX7_shades 29 = .ok (.iconst 1, 1) := by decide +kernel
theorem dX7_shades_30 : decode cX7_shades 30 = .ok (.iadd, 1) := by decide +kernel
theorem dX7_shades_31 : decode cX7_shades 31 = .ok (.iastore, 1) := by decide +kernel
theorem dX7_shades_32 : decode cX7_shades 32 = .ok (.aload_n 0, 1) := by decide +kernel
theorem dX7_shades_33 : decode cX7_shades 33 = .ok (.getfield 7, 3) := by decide +kernel
theorem dX7_shades_36 : decode cX7_shades 36 = .ok (.sipush 168, 3) := by decide +kernel
theorem dX7_shades_39 : decode cX7_shades 39 = .ok (.aload_n 0, 1) := by decide +kernel
theorem dX7_shades_40 : decode cX7_shades 40 = .ok (.getfield 7, 3) := by decide +kernel
theorem dX7_shades_43 : decode cX7_shades 43 = .ok (.sipush 168, 3) := by decide +kernel
theorem dX7_shades_46 : decode cX7_shades 46 = .ok (.iaload, 1) := by decide +kernel
theorem dX7_shades_47 : decode cX7_shades 47 = .ok (.iadd, 1) := by decide +kernel
theorem dX7_shades_48 : decode cX7_shades 48 = .ok (.iload_n 1, 1) := by decide +kernel
theorem dX7_shades_49 : decode cX7_shades 49 = .ok (.iastore, 1) := by decide +kernel
theorem dX7_shades_50 : decode cX7_shades 50 = .ok (.return_, 1) := by decide +kernel
theorem dX7_begins_0 : decode cX7_begins 0 = .ok (.aload_n 0, 1) := by decide +kernel
theorem dX7_begins_1 : decode cX7_begins 1 = .ok (.getfield 7, 3) := by decide +kernel
theorem dX7_begins_4 : decode cX7_begins 4 = .ok (.sipush 226, 3) := by decide +kernel
theorem dX7_begins_7 : decode cX7_begins 7 = .ok (.iconst 1, 1) := by decide +kernel
theorem dX7_begins_8 : decode cX7_begins 8 = .ok (.iastore, 1) := by decide +kernel
theorem dX7_begins_9 : decode cX7_begins 9 = .ok (.aload_n 0, 1) := by decide +kernel
theorem dX7_begins_10 : decode cX7_begins 10 = .ok (.getfield 7, 3) := by decide +kernel
theorem dX7_begins_13 : decode cX7_begins 13 = .ok (.sipush 228, 3) := by decide +kernel
theorem dX7_begins_16 : decode cX7_begins 16 = .ok (.dup2, 1) := by decide +kernel
theorem dX7_begins_17 : decode cX7_begins 17 = .ok (.iaload, 1) := by decide +kernel
theorem dX7_begins_18 : decode cX7_begins 18 = .ok (.iconst 1, 1) := by decide +kernel
theorem dX7_begins_19 : decode cX7_begins 19 = .ok (.iadd, 1) := by decide +kernel
theorem dX7_begins_20 : decode cX7_begins 20 = .ok (.iastore, 1) := by decide +kernel
theorem dX7_begins_21 : decode cX7_begins 21 = .ok (.aload_n 0, 1) := by decide +kernel
theorem dX7_begins_22 : decode cX7_begins 22 = .ok (.getfield 7, 3) := by decide +kernel
theorem dX7_begins_25 : decode cX7_begins 25 = .ok (.sipush 232, 3) := by decide +kernel
theorem dX7_begins_28 : decode cX7_begins 28 = .ok (.iconst 0, 1) := by decide +kernel
theorem dX7_begins_29 : decode cX7_begins 29 = .ok (.iastore, 1) := by decide +kernel
theorem dX7_begins_30 : decode cX7_begins 30 = .ok (.aload_n 0, 1) := by decide +kernel
theorem dX7_begins_31 : decode cX7_begins 31 = .ok (.getfield 7, 3) := by decide +kernel
theorem dX7_begins_34 : decode cX7_begins 34 = .ok (.sipush 233, 3) := by decide +kernel
theorem dX7_begins_37 : decode cX7_begins 37 = .ok (.iconst 0, 1) := by decide +kernel
theorem dX7_begins_38 : decode cX7_begins 38 = .ok (.iastore, 1) := by decide +kernel
theorem dX7_begins_39 : decode cX7_begins 39 = .ok (.aload_n 0, 1) := by decide +kernel
theorem dX7_begins_40 : decode cX7_begins 40 = .ok (.getfield 7, 3) := by decide +kernel
theorem dX7_begins_43 : decode cX7_begins 43 = .ok (.sipush 168, 3) := by decide +kernel
theorem dX7_begins_46 : decode cX7_begins 46 = .ok (.iconst 0, 1) := by decide +kernel
theorem dX7_begins_47 : decode cX7_begins 47 = .ok (.iastore, 1) := by decide +kernel
theorem dX7_begins_48 : decode cX7_begins 48 = .ok (.iconst 0, 1) := by decide +kernel
theorem dX7_begins_49 : decode cX7_begins 49 = .ok (.istore_n 1, 1) := by decide +kernel
theorem dX7_begins_50 : decode cX7_begins 50 = .ok (.iload_n 1, 1) := by decide +kernel
theorem dX7_begins_51 : decode cX7_begins 51 = .ok (.bipush 24, 2) := by decide +kernel
theorem dX7_begins_53 : decode cX7_begins 53 = .ok (.if_icmp .ge 32, 3) := by decide +kernel
theorem dX7_begins_56 : decode cX7_begins 56 = .ok (.aload_n 0, 1) := by decide +kernel
theorem dX7_begins_57 : decode cX7_begins 57 = .ok (.iload_n 1, 1) := by decide +kernel
theorem dX7_begins_58 : decode cX7_begins 58 = .ok (.iconst 5, 1) := by decide +kernel
theorem dX7_begins_59 : decode cX7_begins 59 = .ok (.iconst 0, 1) := by decide +kernel
theorem dX7_begins_60 : decode cX7_begins 60 = .ok (.invokevirtual 58, 3) := by decide +kernel
theorem dX7_begins_63 : decode cX7_begins 63 = .ok (.aload_n 0, 1) := by decide +kernel
theorem dX7_begins_64 : decode cX7_begins 64 = .ok (.iload_n 1, 1) := by decide +kernel
theorem dX7_begins_65 : decode cX7_begins 65 = .ok (.bipush 6, 2) := by decide +kernel
theorem dX7_begins_67 : decode cX7_begins 67 = .ok (.aload_n 0, 1) := by decide +kernel
theorem dX7_begins_68 : decode cX7_begins 68 = .ok (.iload_n 1, 1) := by decide +kernel
theorem dX7_begins_69 : decode cX7_begins 69 = .ok (.bipush 6, 2) := by decide +kernel
theorem dX7_begins_71 : decode cX7_begins 71 = .ok (.invokevirtual 43, 3) := by decide +kernel
theorem dX7_begins_74 : decode cX7_begins 74 = .ok (.iconst 1, 1) := by decide +kernel
theorem dX7_begins_75 : decode cX7_begins 75 = .ok (.iadd, 1) := by decide +kernel
theorem dX7_begins_76 : decode cX7_begins 76 = .ok (.invokevirtual 58, 3) := by decide +kernel
theorem dX7_begins_79 : decode cX7_begins 79 = .ok (.iinc 1 1, 3) := by decide +kernel
theorem dX7_begins_82 : decode cX7_begins 82 = .ok (.goto (-32), 3) := by decide +kernel
theorem dX7_begins_85 : decode cX7_begins 85 = .ok (.iconst 0, 1) := by decide +kernel
theorem dX7_begins_86 : decode cX7_begins 86 = .ok (.istore_n 1, 1) := by decide +kernel
theorem dX7_begins_87 : decode cX7_begins 87 = .ok (.iload_n 1, 1) := by decide +kernel
theorem dX7_begins_88 : decode cX7_begins 88 = .ok (.iconst 4, 1) := by decide +kernel
theorem dX7_begins_89 : decode cX7_begins 89 = .ok (.if_icmp .ge 23, 3) := by decide +kernel
theorem dX7_begins_92 : decode cX7_begins 92 = .ok (.aload_n 0, 1) := by decide +kernel
theorem dX7_begins_93 : decode cX7_begins 93 = .ok (.aload_n 0, 1) := by decide +kernel
theorem dX7_begins_94 : decode cX7_begins 94 = .ok (.getfield 7, 3) := by decide +kernel
theorem dX7_begins_97 : decode cX7_begins 97 = .ok (.sipush 218, 3) := by decide +kernel
theorem dX7_begins_100 : decode cX7_begins 100 = .ok (.iload_n 1, 1) := by decide +kernel
theorem dX7_begins_101 : decode cX7_begins 101 = .ok (.iadd, 1) := by decide +kernel
theorem dX7_begins_102 : decode cX7_begins 102 = .ok (.iaload, 1) := by decide +kernel
theorem dX7_begins_103 : decode cX7_begins 103 = .ok (.invokevirtual 66, 3) := by decide +kernel
theorem dX7_begins_106 : decode cX7_begins 106 = .ok (.iinc 1 1, 3) := by decide +kernel
theorem dX7_begins_109 : decode cX7_begins 109 = .ok (.goto (-22), 3) := by decide +kernel
theorem dX7_begins_112 : decode cX7_begins 112 = .ok (.iconst 0, 1) := by decide +kernel
theorem dX7_begins_113 : decode cX7_begins 113 = .ok (.istore_n 1, 1) := by decide +kernel
theorem dX7_begins_114 : decode cX7_begins 114 = .ok (.iload_n 1, 1) := by decide +kernel
theorem dX7_begins_115 : decode cX7_begins 115 = .ok (.aload_n 0, 1) := by decide +kernel
theorem dX7_begins_116 : decode cX7_begins 116 = .ok (.getfield 7, 3) := by decide +kernel
theorem dX7_begins_119 : decode cX7_begins 119 = .ok (.sipush 193, 3) := by decide +kernel
theorem dX7_begins_122 : decode cX7_begins 122 = .ok (.iaload, 1) := by decide +kernel
theorem dX7_begins_123 : decode cX7_begins 123 = .ok (.if_icmp .ge 23, 3) := by decide +kernel
theorem dX7_begins_126 : decode cX7_begins 126 = .ok (.aload_n 0, 1) := by decide +kernel
theorem dX7_begins_127 : decode cX7_begins 127 = .ok (.aload_n 0, 1) := by decide +kernel
theorem dX7_begins_128 : decode cX7_begins 128 = .ok (.getfield 7, 3) := by decide +kernel
theorem dX7_begins_131 : decode cX7_begins 131 = .ok (.sipush 194, 3) := by decide +kernel
theorem dX7_begins_134 : decode cX7_begins 134 = .ok (.iload_n 1, 1) := by decide +kernel
theorem dX7_begins_135 : decode cX7_begins 135 = .ok (.iadd, 1) := by decide +kernel
theorem dX7_begins_136 : decode cX7_begins 136 = .ok (.iaload, 1) := by decide +kernel
theorem dX7_begins_137 : decode cX7_begins 137 = .ok (.invokevirtual 66, 3) := by decide +kernel
theorem dX7_begins_140 : decode cX7_begins 140 = .ok (.iinc 1 1, 3) := by decide +kernel
theorem dX7_begins_143 : decode cX7_begins 143 = .ok (.goto (-29), 3) := by decide +kernel
theorem dX7_begins_146 : decode cX7_begins 146 = .ok (.return_, 1) := by decide +kernel
theorem dX7_takes_0 : decode cX7_takes 0 = .ok (.aload_n 0, 1) := by decide +kernel
theorem dX7_takes_1 : decode cX7_takes 1 = .ok (.getfield 7, 3) := by decide +kernel
theorem dX7_takes_4 : decode cX7_takes 4 = .ok (.iload_n 1, 1) := by decide +kernel
theorem dX7_takes_5 : decode cX7_takes 5 = .ok (.iconst 1, 1) := by decide +kernel
theorem dX7_takes_6 : decode cX7_takes 6 = .ok (.iadd, 1) := by decide +kernel
theorem dX7_takes_7 : decode cX7_takes 7 = .ok (.iaload, 1) := by decide +kernel
theorem dX7_takes_8 : decode cX7_takes 8 = .ok (.istore_n 2, 1) := by decide +kernel
theorem dX7_takes_9 : decode cX7_takes 9 = .ok (.aload_n 0, 1) := by decide +kernel
theorem dX7_takes_10 : decode cX7_takes 10 = .ok (.getfield 7, 3) := by decide +kernel
theorem dX7_takes_13 : decode cX7_takes 13 = .ok (.iload_n 1, 1) := by decide +kernel
theorem dX7_takes_14 : decode cX7_takes 14 = .ok (.dup2, 1) := by decide +kernel
theorem dX7_takes_15 : decode cX7_takes 15 = .ok (.iaload, 1) := by decide +kernel
theorem dX7_takes_16 : decode cX7_takes 16 = .ok (.iconst 1, 1) := by decide +kernel
theorem dX7_takes_17 : decode cX7_takes 17 = .ok (.isub, 1) := by decide +kernel
theorem dX7_takes_18 : decode cX7_takes 18 = .ok (.iastore, 1) := by decide +kernel
theorem dX7_takes_19 : decode cX7_takes 19 = .ok (.iconst 1, 1) := by decide +kernel
theorem dX7_takes_20 : decode cX7_takes 20 = .ok (.istore_n 3, 1) := by decide +kernel
theorem dX7_takes_21 : decode cX7_takes 21 = .ok (.iload_n 3, 1) := by decide +kernel
theorem dX7_takes_22 : decode cX7_takes 22 = .ok (.aload_n 0, 1) := by decide +kernel
theorem dX7_takes_23 : decode cX7_takes 23 = .ok (.getfield 7, 3) := by decide +kernel
theorem dX7_takes_26 : decode cX7_takes 26 = .ok (.iload_n 1, 1) := by decide +kernel
theorem dX7_takes_27 : decode cX7_takes 27 = .ok (.iaload, 1) := by decide +kernel
theorem dX7_takes_28 : decode cX7_takes 28 = .ok (.if_icmp .gt 27, 3) := by decide +kernel
theorem dX7_takes_31 : decode cX7_takes 31 = .ok (.aload_n 0, 1) := by decide +kernel
theorem dX7_takes_32 : decode cX7_takes 32 = .ok (.getfield 7, 3) := by decide +kernel
theorem dX7_takes_35 : decode cX7_takes 35 = .ok (.iload_n 1, 1) := by decide +kernel
theorem dX7_takes_36 : decode cX7_takes 36 = .ok (.iload_n 3, 1) := by decide +kernel
theorem dX7_takes_37 : decode cX7_takes 37 = .ok (.iadd, 1) := by decide +kernel
theorem dX7_takes_38 : decode cX7_takes 38 = .ok (.aload_n 0, 1) := by decide +kernel
theorem dX7_takes_39 : decode cX7_takes 39 = .ok (.getfield 7, 3) := by decide +kernel
theorem dX7_takes_42 : decode cX7_takes 42 = .ok (.iload_n 1, 1) := by decide +kernel
theorem dX7_takes_43 : decode cX7_takes 43 = .ok (.iload_n 3, 1) := by decide +kernel
theorem dX7_takes_44 : decode cX7_takes 44 = .ok (.iadd, 1) := by decide +kernel
theorem dX7_takes_45 : decode cX7_takes 45 = .ok (.iconst 1, 1) := by decide +kernel
theorem dX7_takes_46 : decode cX7_takes 46 = .ok (.iadd, 1) := by decide +kernel
theorem dX7_takes_47 : decode cX7_takes 47 = .ok (.iaload, 1) := by decide +kernel
theorem dX7_takes_48 : decode cX7_takes 48 = .ok (.iastore, 1) := by decide +kernel
theorem dX7_takes_49 : decode cX7_takes 49 = .ok (.iinc 3 1, 3) := by decide +kernel
theorem dX7_takes_52 : decode cX7_takes 52 = .ok (.goto (-31), 3) := by decide +kernel
theorem dX7_takes_55 : decode cX7_takes 55 = .ok (.iload_n 2, 1) := by decide +kernel
theorem dX7_takes_56 : decode cX7_takes 56 = .ok (.ireturn, 1) := by decide +kernel
theorem dX7_blackens_0 : decode cX7_blackens 0 = .ok (.aload_n 0, 1) := by decide +kernel
theorem dX7_blackens_1 : decode cX7_blackens 1 = .ok (.sipush 168, 3) := by decide +kernel
theorem dX7_blackens_4 : decode cX7_blackens 4 = .ok (.invokevirtual 96, 3) := by decide +kernel
theorem dX7_blackens_7 : decode cX7_blackens 7 = .ok (.istore_n 1, 1) := by decide +kernel
theorem dX7_blackens_8 : decode cX7_blackens 8 = .ok (.iconst 0, 1) := by decide +kernel
theorem dX7_blackens_9 : decode cX7_blackens 9 = .ok (.istore_n 2, 1) := by decide +kernel
theorem dX7_blackens_10 : decode cX7_blackens 10 = .ok (.iload_n 2, 1) := by decide +kernel
theorem dX7_blackens_11 : decode cX7_blackens 11 = .ok (.iconst 3, 1) := by decide +kernel
theorem dX7_blackens_12 : decode cX7_blackens 12 = .ok (.if_icmp .ge 21, 3) := by decide +kernel
theorem dX7_blackens_15 : decode cX7_blackens 15 = .ok (.aload_n 0, 1) := by decide +kernel
theorem dX7_blackens_16 : decode cX7_blackens 16 = .ok (.aload_n 0, 1) := by decide +kernel
theorem dX7_blackens_17 : decode cX7_blackens 17 = .ok (.iload_n 1, 1) := by decide +kernel
theorem dX7_blackens_18 : decode cX7_blackens 18 = .ok (.iconst 1, 1) := by decide +kernel
theorem dX7_blackens_19 : decode cX7_blackens 19 = .ok (.iload_n 2, 1) := by decide +kernel
theorem dX7_blackens_20 : decode cX7_blackens 20 = .ok (.iadd, 1) := by decide +kernel
theorem dX7_blackens_21 : decode cX7_blackens 21 = .ok (.invokevirtual 43, 3) := by decide +kernel
theorem dX7_blackens_24 : decode cX7_blackens 24 = .ok (.invokevirtual 66, 3) := by decide +kernel
theorem dX7_blackens_27 : decode cX7_blackens 27 = .ok (.iinc 2 1, 3) := by decide +kernel
theorem dX7_blackens_30 : decode cX7_blackens 30 = .ok (.goto (-20), 3) := by decide +kernel
theorem dX7_blackens_33 : decode cX7_blackens 33 = .ok (.aload_n 0, 1) := by decide +kernel
theorem dX7_blackens_34 : decode cX7_blackens 34 = .ok (.iload_n 1, 1) := by decide +kernel
theorem dX7_blackens_35 : decode cX7_blackens 35 = .ok (.iconst 5, 1) := by decide +kernel
theorem dX7_blackens_36 : decode cX7_blackens 36 = .ok (.iconst 2, 1) := by decide +kernel
theorem dX7_blackens_37 : decode cX7_blackens 37 = .ok (.invokevirtual 58, 3) := by decide +kernel
theorem dX7_blackens_40 : decode cX7_blackens 40 = .ok (.return_, 1) := by decide +kernel
theorem dX7_clears_0 : decode cX7_clears 0 = .ok (.iconst 0, 1) := by decide +kernel
theorem dX7_clears_1 : decode cX7_clears 1 = .ok (.istore_n 1, 1) := by decide +kernel
theorem dX7_clears_2 : decode cX7_clears 2 = .ok (.iload_n 1, 1) := by decide +kernel
theorem dX7_clears_3 : decode cX7_clears 3 = .ok (.iconst 4, 1) := by decide +kernel
theorem dX7_clears_4 : decode cX7_clears 4 = .ok (.if_icmp .ge 48, 3) := by decide +kernel
theorem dX7_clears_7 : decode cX7_clears 7 = .ok (.aload_n 0, 1) := by decide +kernel
theorem dX7_clears_8 : decode cX7_clears 8 = .ok (.getfield 7, 3) := by decide +kernel
theorem dX7_clears_11 : decode cX7_clears 11 = .ok (.sipush 222, 3) := by decide +kernel
theorem dX7_clears_14 : decode cX7_clears 14 = .ok (.iload_n 1, 1) := by decide +kernel
theorem dX7_clears_15 : decode cX7_clears 15 = .ok (.iadd, 1) := by decide +kernel
theorem dX7_clears_16 : decode cX7_clears 16 = .ok (.iaload, 1) := by decide +kernel
theorem dX7_clears_17 : decode cX7_clears 17 = .ok (.istore_n 2, 1) := by decide +kernel
theorem dX7_clears_18 : decode cX7_clears 18 = .ok (.aload_n 0, 1) := by decide +kernel
theorem dX7_clears_19 : decode cX7_clears 19 = .ok (.getfield 7, 3) := by decide +kernel
theorem dX7_clears_22 : decode cX7_clears 22 = .ok (.sipush 222, 3) := by decide +kernel
theorem dX7_clears_25 : decode cX7_clears 25 = .ok (.iload_n 1, 1) := by decide +kernel
theorem dX7_clears_26 : decode cX7_clears 26 = .ok (.iadd, 1) := by decide +kernel
theorem dX7_clears_27 : decode cX7_clears 27 = .ok (.iload_n 2, 1) := by decide +kernel
theorem dX7_clears_28 : decode cX7_clears 28 = .ok (.ifCond .lt 16, 3) := by decide +kernel
theorem dX7_clears_31 : decode cX7_clears 31 = .ok (.aload_n 0, 1) := by decide +kernel
theorem dX7_clears_32 : decode cX7_clears 32 = .ok (.iload_n 2, 1) := by decide +kernel
theorem dX7_clears_33 : decode cX7_clears 33 = .ok (.iconst 5, 1) := by decide +kernel
theorem dX7_clears_34 : decode cX7_clears 34 = .ok (.invokevirtual 43, 3) := by decide +kernel
theorem dX7_clears_37 : decode cX7_clears 37 = .ok (.ifCond .ne 7, 3) := by decide +kernel
theorem dX7_clears_40 : decode cX7_clears 40 = .ok (.iconst (-1), 1) := by decide +kernel
theorem dX7_clears_41 : decode cX7_clears 41 = .ok (.goto 4, 3) := by decide +kernel
theorem dX7_clears_44 : decode cX7_clears 44 = .ok (.iload_n 2, 1) := by decide +kernel
theorem dX7_clears_45 : decode cX7_clears 45 = .ok (.iastore, 1) := by decide +kernel
theorem dX7_clears_46 : decode cX7_clears 46 = .ok (.iinc 1 1, 3) := by decide +kernel
theorem dX7_clears_49 : decode cX7_clears 49 = .ok (.goto (-47), 3) := by decide +kernel
theorem dX7_clears_52 : decode cX7_clears 52 = .ok (.return_, 1) := by decide +kernel
theorem dX7_isObject_0 : decode cX7_isObject 0 = .ok (.iload_n 1, 1) := by decide +kernel
theorem dX7_isObject_1 : decode cX7_isObject 1 = .ok (.iconst 0, 1) := by decide +kernel
theorem dX7_isObject_2 : decode cX7_isObject 2 = .ok (.bipush 23, 2) := by decide +kernel
theorem dX7_isObject_4 : decode cX7_isObject 4 = .ok (.invokestatic 39, 3) := by decide +kernel
theorem dX7_isObject_7 : decode cX7_isObject 7 = .ok (.ifCond .eq 17, 3) := by decide +kernel
theorem dX7_isObject_10 : decode cX7_isObject 10 = .ok (.aload_n 0, 1) := by decide +kernel
theorem dX7_isObject_11 : decode cX7_isObject 11 = .ok (.iload_n 1, 1) := by decide +kernel
theorem dX7_isObject_12 : decode cX7_isObject 12 = .ok (.iconst 0, 1) := by decide +kernel
theorem dX7_isObject_13 : decode cX7_isObject 13 = .ok (.invokevirtual 43, 3) := by decide +kernel
theorem dX7_isObject_16 : decode cX7_isObject 16 = .ok (.iconst 1, 1) := by decide +kernel
theorem dX7_isObject_17 : decode cX7_isObject 17 = .ok (.if_icmp .ne 7, 3) := by decide +kernel
theorem dX7_isObject_20 : decode cX7_isObject 20 = .ok (.iconst 1, 1) := by decide +kernel
theorem dX7_isObject_21 : decode cX7_isObject 21 = .ok (.goto 4, 3) := by decide +kernel
theorem dX7_isObject_24 : decode cX7_isObject 24 = .ok (.iconst 0, 1) := by decide +kernel
theorem dX7_isObject_25 : decode cX7_isObject 25 = .ok (.ireturn, 1) := by decide +kernel
theorem dX7_looksForFinish_0 : decode cX7_looksForFinish 0 = .ok (.iconst (-1), 1) := by decide +kernel
theorem dX7_looksForFinish_1 : decode cX7_looksForFinish 1 = .ok (.istore_n 1, 1) := by decide +kernel
theorem dX7_looksForFinish_2 : decode cX7_looksForFinish 2 = .ok (.bipush 23, 2) := by decide +kernel
theorem dX7_looksForFinish_4 : decode cX7_looksForFinish 4 = .ok (.istore_n 2, 1) := by decide +kernel
theorem dX7_looksForFinish_5 : decode cX7_looksForFinish 5 = .ok (.iload_n 2, 1) := by decide +kernel
theorem dX7_looksForFinish_6 : decode cX7_looksForFinish 6 = .ok (.ifCond .lt 42, 3) := by decide +kernel
theorem dX7_looksForFinish_9 : decode cX7_looksForFinish 9 = .ok (.aload_n 0, 1) := by decide +kernel
theorem dX7_looksForFinish_10 : decode cX7_looksForFinish 10 = .ok (.iload_n 2, 1) := by decide +kernel
theorem dX7_looksForFinish_11 : decode cX7_looksForFinish 11 = .ok (.invokevirtual 87, 3) := by decide +kernel
theorem dX7_looksForFinish_14 : decode cX7_looksForFinish 14 = .ok (.ifCond .eq 26, 3) := by decide +kernel
theorem dX7_looksForFinish_17 : decode cX7_looksForFinish 17 = .ok (.aload_n 0, 1) := by decide +kernel
theorem dX7_looksForFinish_18 : decode cX7_looksForFinish 18 = .ok (.iload_n 2, 1) := by decide +kernel
theorem dX7_looksForFinish_19 : decode cX7_looksForFinish 19 = .ok (.iconst 5, 1) := by decide +kernel
theorem dX7_looksForFinish_20 : decode cX7_looksForFinish 20 = .ok (.invokevirtual 43, 3) := by decide +kernel
theorem dX7_looksForFinish_23 : decode cX7_looksForFinish 23 = .ok (.ifCond .ne 17, 3) := by decide +kernel
theorem dX7_looksForFinish_26 : decode cX7_looksForFinish 26 = .ok (.aload_n 0, 1) := by decide +kernel
theorem dX7_looksForFinish_27 : decode cX7_looksForFinish 27 = .ok (.iload_n 2, 1) := by decide +kernel
theorem dX7_looksForFinish_28 : decode cX7_looksForFinish 28 = .ok (.iconst 4, 1) := by decide +kernel
theorem dX7_looksForFinish_29 : decode cX7_looksForFinish 29 = .ok (.invokevirtual 43, 3) := by decide +kernel
theorem dX7_looksForFinish_32 : decode cX7_looksForFinish 32 = .ok (.iconst 1, 1) := by decide +kernel
theorem dX7_looksForFinish_33 : decode cX7_looksForFinish 33 = .ok (.if_icmp .ne 7, 3) := by decide +kernel
theorem dX7_looksForFinish_36 : decode cX7_looksForFinish 36 = .ok (.iload_n 2, 1) := by decide +kernel
theorem dX7_looksForFinish_37 : decode cX7_looksForFinish 37 = .ok (.goto 4, 3) := by decide +kernel
theorem dX7_looksForFinish_40 : decode cX7_looksForFinish 40 = .ok (.iload_n 1, 1) := by decide +kernel
theorem dX7_looksForFinish_41 : decode cX7_looksForFinish 41 = .ok (.istore_n 1, 1) := by decide +kernel
theorem dX7_looksForFinish_42 : decode cX7_looksForFinish 42 = .ok (.iinc 2 (-1), 3) := by decide +kernel
theorem dX7_looksForFinish_45 : decode cX7_looksForFinish 45 = .ok (.goto (-40), 3) := by decide +kernel
theorem dX7_looksForFinish_48 : decode cX7_looksForFinish 48 = .ok (.iload_n 1, 1) := by decide +kernel
theorem dX7_looksForFinish_49 : decode cX7_looksForFinish 49 = .ok (.ifCond .ge 26, 3) := by decide +kernel
theorem dX7_looksForFinish_52 : decode cX7_looksForFinish 52 = .ok (.aload_n 0, 1) := by decide +kernel
theorem dX7_looksForFinish_53 : decode cX7_looksForFinish 53 = .ok (.invokevirtual 102, 3) := by decide +kernel
theorem dX7_looksForFinish_56 : decode cX7_looksForFinish 56 = .ok (.aload_n 0, 1) := by decide +kernel
theorem dX7_looksForFinish_57 : decode cX7_looksForFinish 57 = .ok (.getfield 7, 3) := by decide +kernel
theorem dX7_looksForFinish_60 : decode cX7_looksForFinish 60 = .ok (.sipush 226, 3) := by decide +kernel
theorem dX7_looksForFinish_63 : decode cX7_looksForFinish 63 = .ok (.iconst 3, 1) := by decide +kernel
theorem dX7_looksForFinish_64 : decode cX7_looksForFinish 64 = .ok (.iastore, 1) := by decide +kernel
theorem dX7_looksForFinish_65 : decode cX7_looksForFinish 65 = .ok (.aload_n 0, 1) := by decide +kernel
theorem dX7_looksForFinish_66 : decode cX7_looksForFinish 66 = .ok (.getfield 7, 3) := by decide +kernel
theorem dX7_looksForFinish_69 : decode cX7_looksForFinish 69 = .ok (.sipush 227, 3) := by decide +kernel
theorem dX7_looksForFinish_72 : decode cX7_looksForFinish 72 = .ok (.iconst 0, 1) := by decide +kernel
theorem dX7_looksForFinish_73 : decode cX7_looksForFinish 73 = .ok (.iastore, 1) := by decide +kernel
theorem dX7_looksForFinish_74 : decode cX7_looksForFinish 74 = .ok (.return_, 1) := by decide +kernel
theorem dX7_looksForFinish_75 : decode cX7_looksForFinish 75 = .ok (.aload_n 0, 1) := by decide +kernel
theorem dX7_looksForFinish_76 : decode cX7_looksForFinish 76 = .ok (.iload_n 1, 1) := by decide +kernel
theorem dX7_looksForFinish_77 : decode cX7_looksForFinish 77 = .ok (.iconst 4, 1) := by decide +kernel
theorem dX7_looksForFinish_78 : decode cX7_looksForFinish 78 = .ok (.iconst 0, 1) := by decide +kernel
theorem dX7_looksForFinish_79 : decode cX7_looksForFinish 79 = .ok (.invokevirtual 58, 3) := by decide +kernel
theorem dX7_looksForFinish_82 : decode cX7_looksForFinish 82 = .ok (.aload_n 0, 1) := by decide +kernel
theorem dX7_looksForFinish_83 : decode cX7_looksForFinish 83 = .ok (.getfield 7, 3) := by decide +kernel
theorem dX7_looksForFinish_86 : decode cX7_looksForFinish 86 = .ok (.sipush 193, 3) := by decide +kernel
theorem dX7_looksForFinish_89 : decode cX7_looksForFinish 89 = .ok (.dup2, 1) := by decide +kernel
theorem dX7_looksForFinish_90 : decode cX7_looksForFinish 90 = .ok (.iaload, 1) := by decide +kernel
theorem dX7_looksForFinish_91 : decode cX7_looksForFinish 91 = .ok (.iconst 1, 1) := by decide +kernel
theorem dX7_looksForFinish_92 : decode cX7_looksForFinish 92 = .ok (.iadd, 1) := by decide +kernel
theorem dX7_looksForFinish_93 : decode cX7_looksForFinish 93 = .ok (.iastore, 1) := by decide +kernel
theorem dX7_looksForFinish_94 : decode cX7_looksForFinish 94 = .ok (.aload_n 0, 1) := by decide +kernel
theorem dX7_looksForFinish_95 : decode cX7_looksForFinish 95 = .ok (.getfield 7, 3) := by decide +kernel
theorem dX7_looksForFinish_98 : decode cX7_looksForFinish 98 = .ok (.sipush 193, 3) := by decide +kernel
theorem dX7_looksForFinish_101 : decode cX7_looksForFinish 101 = .ok (.aload_n 0, 1) := by decide +kernel
theorem dX7_looksForFinish_102 : decode cX7_looksForFinish 102 = .ok (.getfield 7, 3) := by decide +kernel
theorem dX7_looksForFinish_105 : decode cX7_looksForFinish 105 = .ok (.sipush 193, 3) := by decide +kernel
theorem dX7_looksForFinish_108 : decode cX7_looksForFinish 108 = .ok (.iaload, 1) := by decide +kernel
theorem dX7_looksForFinish_109 : decode cX7_looksForFinish 109 = .ok (.iadd, 1) := by decide +kernel
theorem dX7_looksForFinish_110 : decode cX7_looksForFinish 110 = .ok (.iload_n 1, 1) := by decide +kernel
theorem dX7_looksForFinish_111 : decode cX7_looksForFinish 111 = .ok (.iastore, 1) := by decide +kernel
theorem dX7_looksForFinish_112 : decode cX7_looksForFinish 112 = .ok (.aload_n 0, 1) := by decide +kernel
theorem dX7_looksForFinish_113 : decode cX7_looksForFinish 113 = .ok (.iload_n 1, 1) := by decide +kernel
theorem dX7_looksForFinish_114 : decode cX7_looksForFinish 114 = .ok (.invokevirtual 66, 3) := by decide +kernel
theorem dX7_looksForFinish_117 : decode cX7_looksForFinish 117 = .ok (.return_, 1) := by decide +kernel
theorem dX7_letsGo_0 : decode cX7_letsGo 0 = .ok (.aload_n 0, 1) := by decide +kernel
theorem dX7_letsGo_1 : decode cX7_letsGo 1 = .ok (.iload_n 1, 1) := by decide +kernel
theorem dX7_letsGo_2 : decode cX7_letsGo 2 = .ok (.iconst 0, 1) := by decide +kernel
theorem dX7_letsGo_3 : decode cX7_letsGo 3 = .ok (.iconst 0, 1) := by decide +kernel
theorem dX7_letsGo_4 : decode cX7_letsGo 4 = .ok (.invokevirtual 58, 3) := by decide +kernel
theorem dX7_letsGo_7 : decode cX7_letsGo 7 = .ok (.iconst 0, 1) := by decide +kernel
theorem dX7_letsGo_8 : decode cX7_letsGo 8 = .ok (.istore_n 2, 1) := by decide +kernel
theorem dX7_letsGo_9 : decode cX7_letsGo 9 = .ok (.iload_n 2, 1) := by decide +kernel
theorem dX7_letsGo_10 : decode cX7_letsGo 10 = .ok (.bipush 24, 2) := by decide +kernel
theorem dX7_letsGo_12 : decode cX7_letsGo 12 = .ok (.if_icmp .ge 54, 3) := by decide +kernel
theorem dX7_letsGo_15 : decode cX7_letsGo 15 = .ok (.iconst 0, 1) := by decide +kernel
theorem dX7_letsGo_16 : decode cX7_letsGo 16 = .ok (.istore_n 3, 1) := by decide +kernel
theorem dX7_letsGo_17 : decode cX7_letsGo 17 = .ok (.iload_n 3, 1) := by decide +kernel
theorem dX7_letsGo_18 : decode cX7_letsGo 18 = .ok (.iconst 3, 1) := by decide +kernel
theorem dX7_letsGo_19 : decode cX7_letsGo 19 = .ok (.if_icmp .ge 41, 3) := by decide +kernel
theorem dX7_letsGo_22 : decode cX7_letsGo 22 = .ok (.aload_n 0, 1) := by decide +kernel
theorem dX7_letsGo_23 : decode cX7_letsGo 23 = .ok (.iload_n 2, 1) := by decide +kernel
theorem dX7_letsGo_24 : decode cX7_letsGo 24 = .ok (.iconst 1, 1) := by decide +kernel
theorem dX7_letsGo_25 : decode cX7_letsGo 25 = .ok (.iload_n 3, 1) := by decide +kernel
theorem dX7_letsGo_26 : decode cX7_letsGo 26 = .ok (.iadd, 1) := by decide +kernel
theorem dX7_letsGo_27 : decode cX7_letsGo 27 = .ok (.aload_n 0, 1) := by decide +kernel
theorem dX7_letsGo_28 : decode cX7_letsGo 28 = .ok (.iload_n 2, 1) := by decide +kernel
theorem dX7_letsGo_29 : decode cX7_letsGo 29 = .ok (.iconst 1, 1) := by decide +kernel
theorem dX7_letsGo_30 : decode cX7_letsGo 30 = .ok (.iload_n 3, 1) := by decide +kernel
theorem dX7_letsGo_31 : decode cX7_letsGo 31 = .ok (.iadd, 1) := by decide +kernel
theorem dX7_letsGo_32 : decode cX7_letsGo 32 = .ok (.invokevirtual 43, 3) := by decide +kernel
theorem dX7_letsGo_35 : decode cX7_letsGo 35 = .ok (.iload_n 1, 1) := by decide +kernel
theorem dX7_letsGo_36 : decode cX7_letsGo 36 = .ok (.if_icmp .ne 7, 3) := by decide +kernel
theorem dX7_letsGo_39 : decode cX7_letsGo 39 = .ok (.iconst (-1), 1) := by decide +kernel
theorem dX7_letsGo_40 : decode cX7_letsGo 40 = .ok (.goto 11, 3) := by decide +kernel
theorem dX7_letsGo_43 : decode cX7_letsGo 43 = .ok (.aload_n 0, 1) := by decide +kernel
theorem dX7_letsGo_44 : decode cX7_letsGo 44 = .ok (.iload_n 2, 1) := by decide +kernel
theorem dX7_letsGo_45 : decode cX7_letsGo 45 = .ok (.iconst 1, 1) := by decide +kernel
theorem dX7_letsGo_46 : decode cX7_letsGo 46 = .ok (.iload_n 3, 1) := by decide +kernel
theorem dX7_letsGo_47 : decode cX7_letsGo 47 = .ok (.iadd, 1) := by decide +kernel
theorem dX7_letsGo_48 : decode cX7_letsGo 48 = .ok (.invokevirtual 43, 3) := by decide +kernel
theorem dX7_letsGo_51 : decode cX7_letsGo 51 = .ok (.invokevirtual 58, 3) := by decide +kernel
theorem dX7_letsGo_54 : decode cX7_letsGo 54 = .ok (.iinc 3 1, 3) := by decide +kernel
theorem dX7_letsGo_57 : decode cX7_letsGo 57 = .ok (.goto (-40), 3) := by decide +kernel
theorem dX7_letsGo_60 : decode cX7_letsGo 60 = .ok (.iinc 2 1, 3) := by decide +kernel
theorem dX7_letsGo_63 : decode cX7_letsGo 63 = .ok (.goto (-54), 3) := by decide +kernel
theorem dX7_letsGo_66 : decode cX7_letsGo 66 = .ok (.iconst 0, 1) := by decide +kernel
theorem dX7_letsGo_67 : decode cX7_letsGo 67 = .ok (.istore_n 2, 1) := by decide +kernel
theorem dX7_letsGo_68 : decode cX7_letsGo 68 = .ok (.iload_n 2, 1) := by decide +kernel
theorem dX7_letsGo_69 : decode cX7_letsGo 69 = .ok (.bipush 8, 2) := by decide +kernel
theorem dX7_letsGo_71 : decode cX7_letsGo 71 = .ok (.if_icmp .ge 47, 3) := by decide +kernel
theorem dX7_letsGo_74 : decode cX7_letsGo 74 = .ok (.aload_n 0, 1) := by decide +kernel
theorem dX7_letsGo_75 : decode cX7_letsGo 75 = .ok (.getfield 7, 3) := by decide +kernel
theorem dX7_letsGo_78 : decode cX7_letsGo 78 = .ok (.sipush 218, 3) := by decide +kernel
theorem dX7_letsGo_81 : decode cX7_letsGo 81 = .ok (.iload_n 2, 1) := by decide +kernel
theorem dX7_letsGo_82 : decode cX7_letsGo 82 = .ok (.iadd, 1) := by decide +kernel
theorem dX7_letsGo_83 : decode cX7_letsGo 83 = .ok (.aload_n 0, 1) := by decide +kernel
theorem dX7_letsGo_84 : decode cX7_letsGo 84 = .ok (.getfield 7, 3) := by decide +kernel
theorem dX7_letsGo_87 : decode cX7_letsGo 87 = .ok (.sipush 218, 3) := by decide +kernel
theorem dX7_letsGo_90 : decode cX7_letsGo 90 = .ok (.iload_n 2, 1) := by decide +kernel
theorem dX7_letsGo_91 : decode cX7_letsGo 91 = .ok (.iadd, 1) := by decide +kernel
theorem dX7_letsGo_92 : decode cX7_letsGo 92 = .ok (.iaload, 1) := by decide +kernel
theorem dX7_letsGo_93 : decode cX7_letsGo 93 = .ok (.iload_n 1, 1) := by decide +kernel
theorem dX7_letsGo_94 : decode cX7_letsGo 94 = .ok (.if_icmp .ne 7, 3) := by decide +kernel
theorem dX7_letsGo_97 : decode cX7_letsGo 97 = .ok (.iconst (-1), 1) := by decide +kernel
theorem dX7_letsGo_98 : decode cX7_letsGo 98 = .ok (.goto 13, 3) := by decide +kernel
theorem dX7_letsGo_101 : decode cX7_letsGo 101 = .ok (.aload_n 0, 1) := by decide +kernel
theorem dX7_letsGo_102 : decode cX7_letsGo 102 = .ok (.getfield 7, 3) := by decide +kernel
theorem dX7_letsGo_105 : decode cX7_letsGo 105 = .ok (.sipush 218, 3) := by decide +kernel
theorem dX7_letsGo_108 : decode cX7_letsGo 108 = .ok (.iload_n 2, 1) := by decide +kernel
theorem dX7_letsGo_109 : decode cX7_letsGo 109 = .ok (.iadd, 1) := by decide +kernel
theorem dX7_letsGo_110 : decode cX7_letsGo 110 = .ok (.iaload, 1) := by decide +kernel
theorem dX7_letsGo_111 : decode cX7_letsGo 111 = .ok (.iastore, 1) := by decide +kernel
theorem dX7_letsGo_112 : decode cX7_letsGo 112 = .ok (.iinc 2 1, 3) := by decide +kernel
theorem dX7_letsGo_115 : decode cX7_letsGo 115 = .ok (.goto (-47), 3) := by decide +kernel
theorem dX7_letsGo_118 : decode cX7_letsGo 118 = .ok (.aload_n 0, 1) := by decide +kernel
theorem dX7_letsGo_119 : decode cX7_letsGo 119 = .ok (.getfield 7, 3) := by decide +kernel
theorem dX7_letsGo_122 : decode cX7_letsGo 122 = .ok (.sipush 230, 3) := by decide +kernel
theorem dX7_letsGo_125 : decode cX7_letsGo 125 = .ok (.dup2, 1) := by decide +kernel
theorem dX7_letsGo_126 : decode cX7_letsGo 126 = .ok (.iaload, 1) := by decide +kernel
theorem dX7_letsGo_127 : decode cX7_letsGo 127 = .ok (.iconst 1, 1) := by decide +kernel
theorem dX7_letsGo_128 : decode cX7_letsGo 128 = .ok (.iadd, 1) := by decide +kernel
theorem dX7_letsGo_129 : decode cX7_letsGo 129 = .ok (.iastore, 1) := by decide +kernel
theorem dX7_letsGo_130 : decode cX7_letsGo 130 = .ok (.aload_n 0, 1) := by decide +kernel
theorem dX7_letsGo_131 : decode cX7_letsGo 131 = .ok (.getfield 7, 3) := by decide +kernel
theorem dX7_letsGo_134 : decode cX7_letsGo 134 = .ok (.sipush 233, 3) := by decide +kernel
theorem dX7_letsGo_137 : decode cX7_letsGo 137 = .ok (.dup2, 1) := by decide +kernel
theorem dX7_letsGo_138 : decode cX7_letsGo 138 = .ok (.iaload, 1) := by decide +kernel
theorem dX7_letsGo_139 : decode cX7_letsGo 139 = .ok (.iconst 1, 1) := by decide +kernel
theorem dX7_letsGo_140 : decode cX7_letsGo 140 = .ok (.iload_n 1, 1) := by decide +kernel
theorem dX7_letsGo_141 : decode cX7_letsGo 141 = .ok (.ishl, 1) := by decide +kernel
theorem dX7_letsGo_142 : decode cX7_letsGo 142 = .ok (.ior, 1) := by decide +kernel
theorem dX7_letsGo_143 : decode cX7_letsGo 143 = .ok (.iastore, 1) := by decide +kernel
theorem dX7_letsGo_144 : decode cX7_letsGo 144 = .ok (.return_, 1) := by decide +kernel
theorem dX7_sweeps_0 : decode cX7_sweeps 0 = .ok (.aload_n 0, 1) := by decide +kernel
theorem dX7_sweeps_1 : decode cX7_sweeps 1 = .ok (.getfield 7, 3) := by decide +kernel
theorem dX7_sweeps_4 : decode cX7_sweeps 4 = .ok (.sipush 227, 3) := by decide +kernel
theorem dX7_sweeps_7 : decode cX7_sweeps 7 = .ok (.iaload, 1) := by decide +kernel
theorem dX7_sweeps_8 : decode cX7_sweeps 8 = .ok (.istore_n 1, 1) := by decide +kernel
theorem dX7_sweeps_9 : decode cX7_sweeps 9 = .ok (.iload_n 1, 1) := by decide +kernel
theorem dX7_sweeps_10 : decode cX7_sweeps 10 = .ok (.bipush 24, 2) := by decide +kernel
theorem dX7_sweeps_12 : decode cX7_sweeps 12 = .ok (.if_icmp .ge 18, 3) := by decide +kernel
theorem dX7_sweeps_15 : decode cX7_sweeps 15 = .ok (.aload_n 0, 1) := by decide +kernel
theorem dX7_sweeps_16 : decode cX7_sweeps 16 = .ok (.iload_n 1, 1) := by decide +kernel
theorem dX7_sweeps_17 : decode cX7_sweeps 17 = .ok (.iconst 0, 1) := by decide +kernel
theorem dX7_sweeps_18 : decode cX7_sweeps 18 = .ok (.invokevirtual 43, 3) := by decide +kernel
theorem dX7_sweeps_21 : decode cX7_sweeps 21 = .ok (.ifCond .ne 9, 3) := by decide +kernel
theorem dX7_sweeps_24 : decode cX7_sweeps 24 = .ok (.iinc 1 1, 3) := by decide +kernel
theorem dX7_sweeps_27 : decode cX7_sweeps 27 = .ok (.goto (-18), 3) := by decide +kernel
theorem dX7_sweeps_30 : decode cX7_sweeps 30 = .ok (.iload_n 1, 1) := by decide +kernel
theorem dX7_sweeps_31 : decode cX7_sweeps 31 = .ok (.bipush 24, 2) := by decide +kernel
theorem dX7_sweeps_33 : decode cX7_sweeps 33 = .ok (.if_icmp .ne 13, 3) := by decide +kernel
theorem dX7_sweeps_36 : decode cX7_sweeps 36 = .ok (.aload_n 0, 1) := by decide +kernel
theorem dX7_sweeps_37 : decode cX7_sweeps 37 = .ok (.getfield 7, 3) := by decide +kernel
theorem dX7_sweeps_40 : decode cX7_sweeps 40 = .ok (.sipush 226, 3) := by decide +kernel
theorem dX7_sweeps_43 : decode cX7_sweeps 43 = .ok (.iconst 0, 1) := by decide +kernel
theorem dX7_sweeps_44 : decode cX7_sweeps 44 = .ok (.iastore, 1) := by decide +kernel
theorem dX7_sweeps_45 : decode cX7_sweeps 45 = .ok (.return_, 1) := by decide +kernel
theorem dX7_sweeps_46 : decode cX7_sweeps 46 = .ok (.aload_n 0, 1) := by decide +kernel
theorem dX7_sweeps_47 : decode cX7_sweeps 47 = .ok (.iload_n 1, 1) := by decide +kernel
theorem dX7_sweeps_48 : decode cX7_sweeps 48 = .ok (.iconst 5, 1) := by decide +kernel
theorem dX7_sweeps_49 : decode cX7_sweeps 49 = .ok (.invokevirtual 43, 3) := by decide +kernel
theorem dX7_sweeps_52 : decode cX7_sweeps 52 = .ok (.ifCond .ne 11, 3) := by decide +kernel
theorem dX7_sweeps_55 : decode cX7_sweeps 55 = .ok (.aload_n 0, 1) := by decide +kernel
theorem dX7_sweeps_56 : decode cX7_sweeps 56 = .ok (.iload_n 1, 1) := by decide +kernel
theorem dX7_sweeps_57 : decode cX7_sweeps 57 = .ok (.invokevirtual 105, 3) := by decide +kernel
theorem dX7_sweeps_60 : decode cX7_sweeps 60 = .ok (.goto 10, 3) := by decide +kernel
theorem dX7_sweeps_63 : decode cX7_sweeps 63 = .ok (.aload_n 0, 1) := by decide +kernel
theorem dX7_sweeps_64 : decode cX7_sweeps 64 = .ok (.iload_n 1, 1) := by decide +kernel
theorem dX7_sweeps_65 : decode cX7_sweeps 65 = .ok (.iconst 5, 1) := by decide +kernel
theorem dX7_sweeps_66 : decode cX7_sweeps 66 = .ok (.iconst 0, 1) := by decide +kernel
theorem dX7_sweeps_67 : decode cX7_sweeps 67 = .ok (.invokevirtual 58, 3) := by decide +kernel
theorem dX7_sweeps_70 : decode cX7_sweeps 70 = .ok (.aload_n 0, 1) := by decide +kernel
theorem dX7_sweeps_71 : decode cX7_sweeps 71 = .ok (.getfield 7, 3) := by decide +kernel
theorem dX7_sweeps_74 : decode cX7_sweeps 74 = .ok (.sipush 227, 3) := by decide +kernel
theorem dX7_sweeps_77 : decode cX7_sweeps 77 = .ok (.iload_n 1, 1) := by decide +kernel
theorem dX7_sweeps_78 : decode cX7_sweeps 78 = .ok (.iconst 1, 1) := by decide +kernel
theorem dX7_sweeps_79 : decode cX7_sweeps 79 = .ok (.iadd, 1) := by decide +kernel
theorem dX7_sweeps_80 : decode cX7_sweeps 80 = .ok (.iastore, 1) := by decide +kernel
theorem dX7_sweeps_81 : decode cX7_sweeps 81 = .ok (.return_, 1) := by decide +kernel
theorem dX7_steps_0 : decode cX7_steps 0 = .ok (.aload_n 0, 1) := by decide +kernel
theorem dX7_steps_1 : decode cX7_steps 1 = .ok (.getfield 7, 3) := by decide +kernel
theorem dX7_steps_4 : decode cX7_steps 4 = .ok (.sipush 232, 3) := by decide +kernel
theorem dX7_steps_7 : decode cX7_steps 7 = .ok (.dup2, 1) := by decide +kernel
theorem dX7_steps_8 : decode cX7_steps 8 = .ok (.iaload, 1) := by decide +kernel
theorem dX7_steps_9 : decode cX7_steps 9 = .ok (.iconst 1, 1) := by decide +kernel
theorem dX7_steps_10 : decode cX7_steps 10 = .ok (.iadd, 1) := by decide +kernel
theorem dX7_steps_11 : decode cX7_steps 11 = .ok (.iastore, 1) := by decide +kernel
theorem dX7_steps_12 : decode cX7_steps 12 = .ok (.aload_n 0, 1) := by decide +kernel
theorem dX7_steps_13 : decode cX7_steps 13 = .ok (.getfield 7, 3) := by decide +kernel
theorem dX7_steps_16 : decode cX7_steps 16 = .ok (.sipush 226, 3) := by decide +kernel
theorem dX7_steps_19 : decode cX7_steps 19 = .ok (.iaload, 1) := by decide +kernel
theorem dX7_steps_20 : decode cX7_steps 20 = .ok (.iconst 3, 1) := by decide +kernel
theorem dX7_steps_21 : decode cX7_steps 21 = .ok (.if_icmp .ne 10, 3) := by decide +kernel
theorem dX7_steps_24 : decode cX7_steps 24 = .ok (.aload_n 0, 1) := by decide +kernel
theorem dX7_steps_25 : decode cX7_steps 25 = .ok (.invokevirtual 108, 3) := by decide +kernel
theorem dX7_steps_28 : decode cX7_steps 28 = .ok (.goto 53, 3) := by decide +kernel
theorem dX7_steps_31 : decode cX7_steps 31 = .ok (.aload_n 0, 1) := by decide +kernel
theorem dX7_steps_32 : decode cX7_steps 32 = .ok (.getfield 7, 3) := by decide +kernel
theorem dX7_steps_35 : decode cX7_steps 35 = .ok (.sipush 168, 3) := by decide +kernel
theorem dX7_steps_38 : decode cX7_steps 38 = .ok (.iaload, 1) := by decide +kernel
theorem dX7_steps_39 : decode cX7_steps 39 = .ok (.ifCond .le 10, 3) := by decide +kernel
theorem dX7_steps_42 : decode cX7_steps 42 = .ok (.aload_n 0, 1) := by decide +kernel
theorem dX7_steps_43 : decode cX7_steps 43 = .ok (.invokevirtual 111, 3) := by decide +kernel
theorem dX7_steps_46 : decode cX7_steps 46 = .ok (.goto 35, 3) := by decide +kernel
theorem dX7_steps_49 : decode cX7_steps 49 = .ok (.aload_n 0, 1) := by decide +kernel
theorem dX7_steps_50 : decode cX7_steps 50 = .ok (.getfield 7, 3) := by decide +kernel
theorem dX7_steps_53 : decode cX7_steps 53 = .ok (.sipush 226, 3) := by decide +kernel
theorem dX7_steps_56 : decode cX7_steps 56 = .ok (.iaload, 1) := by decide +kernel
theorem dX7_steps_57 : decode cX7_steps 57 = .ok (.iconst 1, 1) := by decide +kernel
theorem dX7_steps_58 : decode cX7_steps 58 = .ok (.if_icmp .ne 19, 3) := by decide +kernel
theorem dX7_steps_61 : decode cX7_steps 61 = .ok (.aload_n 0, 1) := by decide +kernel
theorem dX7_steps_62 : decode cX7_steps 62 = .ok (.invokevirtual 102, 3) := by decide +kernel
theorem dX7_steps_65 : decode cX7_steps 65 = .ok (.aload_n 0, 1) := by decide +kernel
theorem dX7_steps_66 : decode cX7_steps 66 = .ok (.getfield 7, 3) := by decide +kernel
theorem dX7_steps_69 : decode cX7_steps 69 = .ok (.sipush 226, 3) := by decide +kernel
theorem dX7_steps_72 : decode cX7_steps 72 = .ok (.iconst 2, 1) := by decide +kernel
theorem dX7_steps_73 : decode cX7_steps 73 = .ok (.iastore, 1) := by decide +kernel
theorem dX7_steps_74 : decode cX7_steps 74 = .ok (.goto 7, 3) := by decide +kernel
theorem dX7_steps_77 : decode cX7_steps 77 = .ok (.aload_n 0, 1) := by decide +kernel
theorem dX7_steps_78 : decode cX7_steps 78 = .ok (.invokevirtual 114, 3) := by decide +kernel
theorem dX7_steps_81 : decode cX7_steps 81 = .ok (.return_, 1) := by decide +kernel
theorem dX7_doesAll_0 : decode cX7_doesAll 0 = .ok (.aload_n 0, 1) := by decide +kernel
theorem dX7_doesAll_1 : decode cX7_doesAll 1 = .ok (.getfield 7, 3) := by decide +kernel
theorem dX7_doesAll_4 : decode cX7_doesAll 4 = .ok (.sipush 226, 3) := by decide +kernel
theorem dX7_doesAll_7 : decode cX7_doesAll 7 = .ok (.iaload, 1) := by decide +kernel
theorem dX7_doesAll_8 : decode cX7_doesAll 8 = .ok (.ifCond .ne 7, 3) := by decide +kernel
theorem dX7_doesAll_11 : decode cX7_doesAll 11 = .ok (.aload_n 0, 1) := by decide +kernel
theorem dX7_doesAll_12 : decode cX7_doesAll 12 = .ok (.invokevirtual 99, 3) := by decide +kernel
theorem dX7_doesAll_15 : decode cX7_doesAll 15 = .ok (.iconst 0, 1) := by decide +kernel
theorem dX7_doesAll_16 : decode cX7_doesAll 16 = .ok (.istore_n 1, 1) := by decide +kernel
theorem dX7_doesAll_17 : decode cX7_doesAll 17 = .ok (.aload_n 0, 1) := by decide +kernel
theorem dX7_doesAll_18 : decode cX7_doesAll 18 = .ok (.getfield 7, 3) := by decide +kernel
theorem dX7_doesAll_21 : decode cX7_doesAll 21 = .ok (.sipush 226, 3) := by decide +kernel
theorem dX7_doesAll_24 : decode cX7_doesAll 24 = .ok (.iaload, 1) := by decide +kernel
theorem dX7_doesAll_25 : decode cX7_doesAll 25 = .ok (.ifCond .le 13, 3) := by decide +kernel
theorem dX7_doesAll_28 : decode cX7_doesAll 28 = .ok (.aload_n 0, 1) := by decide +kernel
theorem dX7_doesAll_29 : decode cX7_doesAll 29 = .ok (.invokevirtual 117, 3) := by decide +kernel
theorem dX7_doesAll_32 : decode cX7_doesAll 32 = .ok (.iinc 1 1, 3) := by decide +kernel
theorem dX7_doesAll_35 : decode cX7_doesAll 35 = .ok (.goto (-18), 3) := by decide +kernel
theorem dX7_doesAll_38 : decode cX7_doesAll 38 = .ok (.iload_n 1, 1) := by decide +kernel
theorem dX7_doesAll_39 : decode cX7_doesAll 39 = .ok (.ireturn, 1) := by decide +kernel
theorem dX7_all_0 : decode cX7_all 0 = .ok (.aload_n 0, 1) := by decide +kernel
theorem dX7_all_1 : decode cX7_all 1 = .ok (.invokevirtual 81, 3) := by decide +kernel
theorem dX7_all_4 : decode cX7_all 4 = .ok (.aload_n 0, 1) := by decide +kernel
theorem dX7_all_5 : decode cX7_all 5 = .ok (.invokevirtual 120, 3) := by decide +kernel
theorem dX7_all_8 : decode cX7_all 8 = .ok (.ireturn, 1) := by decide +kernel
theorem dX7_isMarking_0 : decode cX7_isMarking 0 = .ok (.aload_n 0, 1) := by decide +kernel
theorem dX7_isMarking_1 : decode cX7_isMarking 1 = .ok (.getfield 7, 3) := by decide +kernel
theorem dX7_isMarking_4 : decode cX7_isMarking 4 = .ok (.sipush 226, 3) := by decide +kernel
theorem dX7_isMarking_7 : decode cX7_isMarking 7 = .ok (.iaload, 1) := by decide +kernel
theorem dX7_isMarking_8 : decode cX7_isMarking 8 = .ok (.iconst 1, 1) := by decide +kernel
theorem dX7_isMarking_9 : decode cX7_isMarking 9 = .ok (.if_icmp .eq 15, 3) := by decide +kernel
theorem dX7_isMarking_12 : decode cX7_isMarking 12 = .ok (.aload_n 0, 1) := by decide +kernel
theorem dX7_isMarking_13 : decode cX7_isMarking 13 = .ok (.getfield 7, 3) := by decide +kernel
theorem dX7_isMarking_16 : decode cX7_isMarking 16 = .ok (.sipush 226, 3) := by decide +kernel
theorem dX7_isMarking_19 : decode cX7_isMarking 19 = .ok (.iaload, 1) := by decide +kernel
theorem dX7_isMarking_20 : decode cX7_isMarking 20 = .ok (.iconst 2, 1) := by decide +kernel
theorem dX7_isMarking_21 : decode cX7_isMarking 21 = .ok (.if_icmp .ne 7, 3) := by decide +kernel
theorem dX7_isMarking_24 : decode cX7_isMarking 24 = .ok (.iconst 1, 1) := by decide +kernel
theorem dX7_isMarking_25 : decode cX7_isMarking 25 = .ok (.goto 4, 3) := by decide +kernel
theorem dX7_isMarking_28 : decode cX7_isMarking 28 = .ok (.iconst 0, 1) := by decide +kernel
theorem dX7_isMarking_29 : decode cX7_isMarking 29 = .ok (.ireturn, 1) := by decide +kernel
theorem dX7_cares_0 : decode cX7_cares 0 = .ok (.aload_n 0, 1) := by decide +kernel
theorem dX7_cares_1 : decode cX7_cares 1 = .ok (.invokevirtual 62, 3) := by decide +kernel
theorem dX7_cares_4 : decode cX7_cares 4 = .ok (.ifCond .ne 4, 3) := by decide +kernel
theorem dX7_cares_7 : decode cX7_cares 7 = .ok (.return_, 1) := by decide +kernel
theorem dX7_cares_8 : decode cX7_cares 8 = .ok (.aload_n 0, 1) := by decide +kernel
theorem dX7_cares_9 : decode cX7_cares 9 = .ok (.getfield 7, 3) := by decide +kernel
theorem dX7_cares_12 : decode cX7_cares 12 = .ok (.sipush 234, 3) := by decide +kernel
theorem dX7_cares_15 : decode cX7_cares 15 = .ok (.iaload, 1) := by decide +kernel
theorem dX7_cares_16 : decode cX7_cares 16 = .ok (.iconst 1, 1) := by decide +kernel
theorem dX7_cares_17 : decode cX7_cares 17 = .ok (.if_icmp .ne 12, 3) := by decide +kernel
theorem dX7_cares_20 : decode cX7_cares 20 = .ok (.iload_n 3, 1) := by decide +kernel
theorem dX7_cares_21 : decode cX7_cares 21 = .ok (.ifCond .eq 8, 3) := by decide +kernel
theorem dX7_cares_24 : decode cX7_cares 24 = .ok (.aload_n 0, 1) := by decide +kernel
theorem dX7_cares_25 : decode cX7_cares 25 = .ok (.iload_n 2, 1) := by decide +kernel
theorem dX7_cares_26 : decode cX7_cares 26 = .ok (.invokevirtual 66, 3) := by decide +kernel
theorem dX7_cares_29 : decode cX7_cares 29 = .ok (.aload_n 0, 1) := by decide +kernel
theorem dX7_cares_30 : decode cX7_cares 30 = .ok (.getfield 7, 3) := by decide +kernel
theorem dX7_cares_33 : decode cX7_cares 33 = .ok (.sipush 234, 3) := by decide +kernel
theorem dX7_cares_36 : decode cX7_cares 36 = .ok (.iaload, 1) := by decide +kernel
theorem dX7_cares_37 : decode cX7_cares 37 = .ok (.iconst 2, 1) := by decide +kernel
theorem dX7_cares_38 : decode cX7_cares 38 = .ok (.if_icmp .ne 13, 3) := by decide +kernel
theorem dX7_cares_41 : decode cX7_cares 41 = .ok (.iload_n 1, 1) := by decide +kernel
theorem dX7_cares_42 : decode cX7_cares 42 = .ok (.iload_n 2, 1) := by decide +kernel
theorem dX7_cares_43 : decode cX7_cares 43 = .ok (.if_icmp .eq 8, 3) := by decide +kernel
theorem dX7_cares_46 : decode cX7_cares 46 = .ok (.aload_n 0, 1) := by decide +kernel
theorem dX7_cares_47 : decode cX7_cares 47 = .ok (.iload_n 1, 1) := by decide +kernel
theorem dX7_cares_48 : decode cX7_cares 48 = .ok (.invokevirtual 66, 3) := by decide +kernel
theorem dX7_cares_51 : decode cX7_cares 51 = .ok (.return_, 1) := by decide +kernel
theorem dX7_writesRoot_0 : decode cX7_writesRoot 0 = .ok (.aload_n 0, 1) := by decide +kernel
theorem dX7_writesRoot_1 : decode cX7_writesRoot 1 = .ok (.getfield 7, 3) := by decide +kernel
theorem dX7_writesRoot_4 : decode cX7_writesRoot 4 = .ok (.sipush 218, 3) := by decide +kernel
theorem dX7_writesRoot_7 : decode cX7_writesRoot 7 = .ok (.iload_n 1, 1) := by decide +kernel
theorem dX7_writesRoot_8 : decode cX7_writesRoot 8 = .ok (.iadd, 1) := by decide +kernel
theorem dX7_writesRoot_9 : decode cX7_writesRoot 9 = .ok (.iaload, 1) := by decide +kernel
theorem dX7_writesRoot_10 : decode cX7_writesRoot 10 = .ok (.istore_n 3, 1) := by decide +kernel
theorem dX7_writesRoot_11 : decode cX7_writesRoot 11 = .ok (.aload_n 0, 1) := by decide +kernel
theorem dX7_writesRoot_12 : decode cX7_writesRoot 12 = .ok (.getfield 7, 3) := by decide +kernel
theorem dX7_writesRoot_15 : decode cX7_writesRoot 15 = .ok (.sipush 218, 3) := by decide +kernel
theorem dX7_writesRoot_18 : decode cX7_writesRoot 18 = .ok (.iload_n 1, 1) := by decide +kernel
theorem dX7_writesRoot_19 : decode cX7_writesRoot 19 = .ok (.iadd, 1) := by decide +kernel
theorem dX7_writesRoot_20 : decode cX7_writesRoot 20 = .ok (.iload_n 2, 1) := by decide +kernel
theorem dX7_writesRoot_21 : decode cX7_writesRoot 21 = .ok (.iastore, 1) := by decide +kernel
theorem dX7_writesRoot_22 : decode cX7_writesRoot 22 = .ok (.aload_n 0, 1) := by decide +kernel
theorem dX7_writesRoot_23 : decode cX7_writesRoot 23 = .ok (.iload_n 3, 1) := by decide +kernel
theorem dX7_writesRoot_24 : decode cX7_writesRoot 24 = .ok (.iload_n 2, 1) := by decide +kernel
theorem dX7_writesRoot_25 : decode cX7_writesRoot 25 = .ok (.iconst 1, 1) := by decide +kernel
theorem dX7_writesRoot_26 : decode cX7_writesRoot 26 = .ok (.invokevirtual 70, 3) := by decide +kernel
theorem dX7_writesRoot_29 : decode cX7_writesRoot 29 = .ok (.iload_n 3, 1) := by decide +kernel
theorem dX7_writesRoot_30 : decode cX7_writesRoot 30 = .ok (.ireturn, 1) := by decide +kernel
theorem dX7_ask_0 : decode cX7_ask 0 = .ok (.iload_n 1, 1) := by decide +kernel
theorem dX7_ask_1 : decode cX7_ask 1 = .ok (.invokestatic 74, 3) := by decide +kernel
theorem dX7_ask_4 : decode cX7_ask 4 = .ok (.ifCond .eq 10, 3) := by decide +kernel
theorem dX7_ask_7 : decode cX7_ask 7 = .ok (.iload_n 2, 1) := by decide +kernel
theorem dX7_ask_8 : decode cX7_ask 8 = .ok (.invokestatic 74, 3) := by decide +kernel
theorem dX7_ask_11 : decode cX7_ask 11 = .ok (.ifCond .ne 6, 3) := by decide +kernel
theorem dX7_ask_14 : decode cX7_ask 14 = .ok (.bipush (-11), 2) := by decide +kernel
theorem dX7_ask_16 : decode cX7_ask 16 = .ok (.ireturn, 1) := by decide +kernel
theorem dX7_ask_17 : decode cX7_ask 17 = .ok (.aload_n 0, 1) := by decide +kernel
theorem dX7_ask_18 : decode cX7_ask 18 = .ok (.getfield 7, 3) := by decide +kernel
theorem dX7_ask_21 : decode cX7_ask 21 = .ok (.sipush 222, 3) := by decide +kernel
theorem dX7_ask_24 : decode cX7_ask 24 = .ok (.iload_n 1, 1) := by decide +kernel
theorem dX7_ask_25 : decode cX7_ask 25 = .ok (.iadd, 1) := by decide +kernel
theorem dX7_ask_26 : decode cX7_ask 26 = .ok (.iaload, 1) := by decide +kernel
theorem dX7_ask_27 : decode cX7_ask 27 = .ok (.istore_n 3, 1) := by decide +kernel
theorem dX7_ask_28 : decode cX7_ask 28 = .ok (.iload_n 3, 1) := by decide +kernel
theorem dX7_ask_29 : decode cX7_ask 29 = .ok (.ifCond .ge 6, 3) := by decide +kernel
theorem dX7_ask_32 : decode cX7_ask 32 = .ok (.bipush (-14), 2) := by decide +kernel
theorem dX7_ask_34 : decode cX7_ask 34 = .ok (.ireturn, 1) := by decide +kernel
theorem dX7_ask_35 : decode cX7_ask 35 = .ok (.aload_n 0, 1) := by decide +kernel
theorem dX7_ask_36 : decode cX7_ask 36 = .ok (.invokevirtual 81, 3) := by decide +kernel
theorem dX7_ask_39 : decode cX7_ask 39 = .ok (.aload_n 0, 1) := by decide +kernel
theorem dX7_ask_40 : decode cX7_ask 40 = .ok (.iload_n 2, 1) := by decide +kernel
theorem dX7_ask_41 : decode cX7_ask 41 = .ok (.iload_n 3, 1) := by decide +kernel
theorem dX7_ask_42 : decode cX7_ask 42 = .ok (.invokevirtual 84, 3) := by decide +kernel
theorem dX7_ask_45 : decode cX7_ask 45 = .ok (.istore 4, 2) := by decide +kernel
theorem dX7_ask_47 : decode cX7_ask 47 = .ok (.aload_n 0, 1) := by decide +kernel
theorem dX7_ask_48 : decode cX7_ask 48 = .ok (.invokevirtual 62, 3) := by decide +kernel
theorem dX7_ask_51 : decode cX7_ask 51 = .ok (.ifCond .eq 15, 3) := by decide +kernel
theorem dX7_ask_54 : decode cX7_ask 54 = .ok (.iload 4, 2) := by decide +kernel
theorem dX7_ask_56 : decode cX7_ask 56 = .ok (.bipush 24, 2) := by decide +kernel
theorem dX7_ask_58 : decode cX7_ask 58 = .ok (.if_icmp .ge 8, 3) := by decide +kernel
theorem dX7_ask_61 : decode cX7_ask 61 = .ok (.aload_n 0, 1) := by decide +kernel
theorem dX7_ask_62 : decode cX7_ask 62 = .ok (.iload_n 3, 1) := by decide +kernel
theorem dX7_ask_63 : decode cX7_ask 63 = .ok (.invokevirtual 66, 3) := by decide +kernel
theorem dX7_ask_66 : decode cX7_ask 66 = .ok (.iload_n 3, 1) := by decide +kernel
theorem dX7_ask_67 : decode cX7_ask 67 = .ok (.ireturn, 1) := by decide +kernel
theorem dX7_begin_0 : decode cX7_begin 0 = .ok (.aload_n 0, 1) := by decide +kernel
theorem dX7_begin_1 : decode cX7_begin 1 = .ok (.getfield 7, 3) := by decide +kernel
theorem dX7_begin_4 : decode cX7_begin 4 = .ok (.sipush 226, 3) := by decide +kernel
theorem dX7_begin_7 : decode cX7_begin 7 = .ok (.iaload, 1) := by decide +kernel
theorem dX7_begin_8 : decode cX7_begin 8 = .ok (.ifCond .le 6, 3) := by decide +kernel
theorem dX7_begin_11 : decode cX7_begin 11 = .ok (.bipush (-12), 2) := by decide +kernel
theorem dX7_begin_13 : decode cX7_begin 13 = .ok (.ireturn, 1) := by decide +kernel
theorem dX7_begin_14 : decode cX7_begin 14 = .ok (.aload_n 0, 1) := by decide +kernel
theorem dX7_begin_15 : decode cX7_begin 15 = .ok (.invokevirtual 81, 3) := by decide +kernel
theorem dX7_begin_18 : decode cX7_begin 18 = .ok (.aload_n 0, 1) := by decide +kernel
theorem dX7_begin_19 : decode cX7_begin 19 = .ok (.invokevirtual 99, 3) := by decide +kernel
theorem dX7_begin_22 : decode cX7_begin 22 = .ok (.aload_n 0, 1) := by decide +kernel
theorem dX7_begin_23 : decode cX7_begin 23 = .ok (.getfield 7, 3) := by decide +kernel
theorem dX7_begin_26 : decode cX7_begin 26 = .ok (.sipush 168, 3) := by decide +kernel
theorem dX7_begin_29 : decode cX7_begin 29 = .ok (.iaload, 1) := by decide +kernel
theorem dX7_begin_30 : decode cX7_begin 30 = .ok (.ireturn, 1) := by decide +kernel
theorem dX7_spreads_0 : decode cX7_spreads 0 = .ok (.iload_n 1, 1) := by decide +kernel
theorem dX7_spreads_1 : decode cX7_spreads 1 = .ok (.istore_n 3, 1) := by decide +kernel
theorem dX7_spreads_2 : decode cX7_spreads 2 = .ok (.iconst 1, 1) := by decide +kernel
theorem dX7_spreads_3 : decode cX7_spreads 3 = .ok (.istore 4, 2) := by decide +kernel
theorem dX7_spreads_5 : decode cX7_spreads 5 = .ok (.iload 4, 2) := by decide +kernel
theorem dX7_spreads_7 : decode cX7_spreads 7 = .ok (.ifCond .eq 97, 3) := by decide +kernel
theorem dX7_spreads_10 : decode cX7_spreads 10 = .ok (.iload_n 3, 1) := by decide +kernel
theorem dX7_spreads_11 : decode cX7_spreads 11 = .ok (.istore 5, 2) := by decide +kernel
theorem dX7_spreads_13 : decode cX7_spreads 13 = .ok (.iconst 0, 1) := by decide +kernel
theorem dX7_spreads_14 : decode cX7_spreads 14 = .ok (.istore 6, 2) := by decide +kernel
theorem dX7_spreads_16 : decode cX7_spreads 16 = .ok (.iload 6, 2) := by decide +kernel
theorem dX7_spreads_18 : decode cX7_spreads 18 = .ok (.bipush 24, 2) := by decide +kernel
theorem dX7_spreads_20 : decode cX7_spreads 20 = .ok (.if_icmp .ge 68, 3) := by decide +kernel
theorem dX7_spreads_23 : decode cX7_spreads 23 = .ok (.iconst 0, 1) := by decide +kernel
theorem dX7_spreads_24 : decode cX7_spreads 24 = .ok (.istore 7, 2) := by decide +kernel
theorem dX7_spreads_26 : decode cX7_spreads 26 = .ok (.iload 7, 2) := by decide +kernel
theorem dX7_spreads_28 : decode cX7_spreads 28 = .ok (.iconst 3, 1) := by decide +kernel
theorem dX7_spreads_29 : decode cX7_spreads 29 = .ok (.if_icmp .ge 53, 3) := by decide +kernel
theorem dX7_spreads_32 : decode cX7_spreads 32 = .ok (.iload_n 3, 1) := by decide +kernel
theorem dX7_spreads_33 : decode cX7_spreads 33 = .ok (.iload 6, 2) := by decide +kernel
theorem dX7_spreads_35 : decode cX7_spreads 35 = .ok (.ishr, 1) := by decide +kernel
theorem dX7_spreads_36 : decode cX7_spreads 36 = .ok (.iconst 1, 1) := by decide +kernel
theorem dX7_spreads_37 : decode cX7_spreads 37 = .ok (.iand, 1) := by decide +kernel
theorem dX7_spreads_38 : decode cX7_spreads 38 = .ok (.iconst 1, 1) := by decide +kernel
theorem dX7_spreads_39 : decode cX7_spreads 39 = .ok (.if_icmp .ne 43, 3) := by decide +kernel
theorem dX7_spreads_42 : decode cX7_spreads 42 = .ok (.aload_n 0, 1) := by decide +kernel
theorem dX7_spreads_43 : decode cX7_spreads 43 = .ok (.iload 6, 2) := by decide +kernel
theorem dX7_spreads_45 : decode cX7_spreads 45 = .ok (.iconst 1, 1) := by decide +kernel
theorem dX7_spreads_46 : decode cX7_spreads 46 = .ok (.iload 7, 2) := by decide +kernel
theorem dX7_spreads_48 : decode cX7_spreads 48 = .ok (.iadd, 1) := by decide +kernel
theorem dX7_spreads_49 : decode cX7_spreads 49 = .ok (.invokevirtual 43, 3) := by decide +kernel
theorem dX7_spreads_52 : decode cX7_spreads 52 = .ok (.istore 8, 2) := by decide +kernel
theorem dX7_spreads_54 : decode cX7_spreads 54 = .ok (.iload_n 3, 1) := by decide +kernel
theorem dX7_spreads_55 : decode cX7_spreads 55 = .ok (.iload 8, 2) := by decide +kernel
theorem dX7_spreads_57 : decode cX7_spreads 57 = .ok (.ifCond .lt 16, 3) := by decide +kernel
theorem dX7_spreads_60 : decode cX7_spreads 60 = .ok (.iload 8, 2) := by decide +kernel
theorem dX7_spreads_62 : decode cX7_spreads 62 = .ok (.iload_n 2, 1) := by decide +kernel
theorem dX7_spreads_63 : decode cX7_spreads 63 = .ok (.if_icmp .eq 10, 3) := by decide +kernel
theorem dX7_spreads_66 : decode cX7_spreads 66 = .ok (.iconst 1, 1) := by decide +kernel
theorem dX7_spreads_67 : decode cX7_spreads 67 = .ok (.iload 8, 2) := by decide +kernel
theorem dX7_spreads_69 : decode cX7_spreads 69 = .ok (.ishl, 1) := by decide +kernel
theorem dX7_spreads_70 : decode cX7_spreads 70 = .ok (.goto 4, 3) := by decide +kernel
theorem dX7_spreads_73 : decode cX7_spreads 73 = .ok (.iconst 0, 1) := by decide +kernel
theorem dX7_spreads_74 : decode cX7_spreads 74 = .ok (.ior, 1) := by decide +kernel
theorem dX7_spreads_75 : decode cX7_spreads 75 = .ok (.istore_n 3, 1) := by decide +kernel
theorem dX7_spreads_76 : decode cX7_spreads 76 = .ok (.iinc 7 1, 3) := by decide +kernel
theorem dX7_spreads_79 : decode cX7_spreads 79 = .ok (.goto (-53), 3) := by decide +kernel
theorem dX7_spreads_82 : decode cX7_spreads 82 = .ok (.iinc 6 1, 3) := by decide +kernel
theorem dX7_spreads_85 : decode cX7_spreads 85 = .ok (.goto (-69), 3) := by decide +kernel
theorem dX7_spreads_88 : decode cX7_spreads 88 = .ok (.iload_n 3, 1) := by decide +kernel
theorem dX7_spreads_89 : decode cX7_spreads 89 = .ok (.iload 5, 2) := by decide +kernel
theorem dX7_spreads_91 : decode cX7_spreads 91 = .ok (.if_icmp .eq 7, 3) := by decide +kernel
theorem dX7_spreads_94 : decode cX7_spreads 94 = .ok (.iconst 1, 1) := by decide +kernel
theorem dX7_spreads_95 : decode cX7_spreads 95 = .ok (.goto 4, 3) := by decide +kernel
theorem dX7_spreads_98 : decode cX7_spreads 98 = .ok (.iconst 0, 1) := by decide +kernel
theorem dX7_spreads_99 : decode cX7_spreads 99 = .ok (.istore 4, 2) := by decide +kernel
theorem dX7_spreads_101 : decode cX7_spreads 101 = .ok (.goto (-96), 3) := by decide +kernel
theorem dX7_spreads_104 : decode cX7_spreads 104 = .ok (.iload_n 3, 1) := by decide +kernel
theorem dX7_spreads_105 : decode cX7_spreads 105 = .ok (.ireturn, 1) := by decide +kernel
theorem dX7_rooted_0 : decode cX7_rooted 0 = .ok (.iconst 0, 1) := by decide +kernel
theorem dX7_rooted_1 : decode cX7_rooted 1 = .ok (.istore_n 2, 1) := by decide +kernel
theorem dX7_rooted_2 : decode cX7_rooted 2 = .ok (.iconst 0, 1) := by decide +kernel
theorem dX7_rooted_3 : decode cX7_rooted 3 = .ok (.istore_n 3, 1) := by decide +kernel
theorem dX7_rooted_4 : decode cX7_rooted 4 = .ok (.iload_n 3, 1) := by decide +kernel
theorem dX7_rooted_5 : decode cX7_rooted 5 = .ok (.iconst 4, 1) := by decide +kernel
theorem dX7_rooted_6 : decode cX7_rooted 6 = .ok (.if_icmp .ge 43, 3) := by decide +kernel
theorem dX7_rooted_9 : decode cX7_rooted 9 = .ok (.aload_n 0, 1) := by decide +kernel
theorem dX7_rooted_10 : decode cX7_rooted 10 = .ok (.getfield 7, 3) := by decide +kernel
theorem dX7_rooted_13 : decode cX7_rooted 13 = .ok (.sipush 218, 3) := by decide +kernel
theorem dX7_rooted_16 : decode cX7_rooted 16 = .ok (.iload_n 3, 1) := by decide +kernel
theorem dX7_rooted_17 : decode cX7_rooted 17 = .ok (.iadd, 1) := by decide +kernel
theorem dX7_rooted_18 : decode cX7_rooted 18 = .ok (.iaload, 1) := by decide +kernel
theorem dX7_rooted_19 : decode cX7_rooted 19 = .ok (.istore 4, 2) := by decide +kernel
theorem dX7_rooted_21 : decode cX7_rooted 21 = .ok (.iload_n 2, 1) := by decide +kernel
theorem dX7_rooted_22 : decode cX7_rooted 22 = .ok (.iload 4, 2) := by decide +kernel
theorem dX7_rooted_24 : decode cX7_rooted 24 = .ok (.ifCond .lt 16, 3) := by decide +kernel
theorem dX7_rooted_27 : decode cX7_rooted 27 = .ok (.iload 4, 2) := by decide +kernel
theorem dX7_rooted_29 : decode cX7_rooted 29 = .ok (.iload_n 1, 1) := by decide +kernel
theorem dX7_rooted_30 : decode cX7_rooted 30 = .ok (.if_icmp .eq 10, 3) := by decide +kernel
theorem dX7_rooted_33 : decode cX7_rooted 33 = .ok (.iconst 1, 1) := by decide +kernel
theorem dX7_rooted_34 : decode cX7_rooted 34 = .ok (.iload 4, 2) := by decide +kernel
theorem dX7_rooted_36 : decode cX7_rooted 36 = .ok (.ishl, 1) := by decide +kernel
theorem dX7_rooted_37 : decode cX7_rooted 37 = .ok (.goto 4, 3) := by decide +kernel
theorem dX7_rooted_40 : decode cX7_rooted 40 = .ok (.iconst 0, 1) := by decide +kernel
theorem dX7_rooted_41 : decode cX7_rooted 41 = .ok (.ior, 1) := by decide +kernel
theorem dX7_rooted_42 : decode cX7_rooted 42 = .ok (.istore_n 2, 1) := by decide +kernel
theorem dX7_rooted_43 : decode cX7_rooted 43 = .ok (.iinc 3 1, 3) := by decide +kernel
theorem dX7_rooted_46 : decode cX7_rooted 46 = .ok (.goto (-42), 3) := by decide +kernel
theorem dX7_rooted_49 : decode cX7_rooted 49 = .ok (.aload_n 0, 1) := by decide +kernel
theorem dX7_rooted_50 : decode cX7_rooted 50 = .ok (.iload_n 2, 1) := by decide +kernel
theorem dX7_rooted_51 : decode cX7_rooted 51 = .ok (.iload_n 1, 1) := by decide +kernel
theorem dX7_rooted_52 : decode cX7_rooted 52 = .ok (.invokevirtual 47, 3) := by decide +kernel
theorem dX7_rooted_55 : decode cX7_rooted 55 = .ok (.ireturn, 1) := by decide +kernel
theorem dX7_reached_0 : decode cX7_reached 0 = .ok (.aload_n 0, 1) := by decide +kernel
theorem dX7_reached_1 : decode cX7_reached 1 = .ok (.iconst (-1), 1) := by decide +kernel
theorem dX7_reached_2 : decode cX7_reached 2 = .ok (.invokevirtual 50, 3) := by decide +kernel
theorem dX7_reached_5 : decode cX7_reached 5 = .ok (.istore_n 1, 1) := by decide +kernel
theorem dX7_reached_6 : decode cX7_reached 6 = .ok (.iconst 0, 1) := by decide +kernel
theorem dX7_reached_7 : decode cX7_reached 7 = .ok (.istore_n 2, 1) := by decide +kernel
theorem dX7_reached_8 : decode cX7_reached 8 = .ok (.iload_n 2, 1) := by decide +kernel
theorem dX7_reached_9 : decode cX7_reached 9 = .ok (.aload_n 0, 1) := by decide +kernel
theorem dX7_reached_10 : decode cX7_reached 10 = .ok (.getfield 7, 3) := by decide +kernel
theorem dX7_reached_13 : decode cX7_reached 13 = .ok (.sipush 193, 3) := by decide +kernel
theorem dX7_reached_16 : decode cX7_reached 16 = .ok (.iaload, 1) := by decide +kernel
theorem dX7_reached_17 : decode cX7_reached 17 = .ok (.if_icmp .ge 24, 3) := by decide +kernel
theorem dX7_reached_20 : decode cX7_reached 20 = .ok (.iload_n 1, 1) := by decide +kernel
theorem dX7_reached_21 : decode cX7_reached 21 = .ok (.iconst 1, 1) := by decide +kernel
theorem dX7_reached_22 : decode cX7_reached 22 = .ok (.aload_n 0, 1) := by decide +kernel
theorem dX7_reached_23 : decode cX7_reached 23 = .ok (.getfield 7, 3) := by decide +kernel
theorem dX7_reached_26 : decode cX7_reached 26 = .ok (.sipush 194, 3) := by decide +kernel
theorem dX7_reached_29 : decode cX7_reached 29 = .ok (.iload_n 2, 1) := by decide +kernel
theorem dX7_reached_30 : decode cX7_reached 30 = .ok (.iadd, 1) := by decide +kernel
theorem dX7_reached_31 : decode cX7_reached 31 = .ok (.iaload, 1) := by decide +kernel
theorem dX7_reached_32 : decode cX7_reached 32 = .ok (.ishl, 1) := by decide +kernel
theorem dX7_reached_33 : decode cX7_reached 33 = .ok (.ior, 1) := by decide +kernel
theorem dX7_reached_34 : decode cX7_reached 34 = .ok (.istore_n 1, 1) := by decide +kernel
theorem dX7_reached_35 : decode cX7_reached 35 = .ok (.iinc 2 1, 3) := by decide +kernel
theorem dX7_reached_38 : decode cX7_reached 38 = .ok (.goto (-30), 3) := by decide +kernel
theorem dX7_reached_41 : decode cX7_reached 41 = .ok (.aload_n 0, 1) := by decide +kernel
theorem dX7_reached_42 : decode cX7_reached 42 = .ok (.iload_n 1, 1) := by decide +kernel
theorem dX7_reached_43 : decode cX7_reached 43 = .ok (.iconst (-1), 1) := by decide +kernel
theorem dX7_reached_44 : decode cX7_reached 44 = .ok (.invokevirtual 47, 3) := by decide +kernel
theorem dX7_reached_47 : decode cX7_reached 47 = .ok (.ireturn, 1) := by decide +kernel
theorem dX7_isReached_0 : decode cX7_isReached 0 = .ok (.aload_n 0, 1) := by decide +kernel
theorem dX7_isReached_1 : decode cX7_isReached 1 = .ok (.invokevirtual 54, 3) := by decide +kernel
theorem dX7_isReached_4 : decode cX7_isReached 4 = .ok (.iload_n 1, 1) := by decide +kernel
theorem dX7_isReached_5 : decode cX7_isReached 5 = .ok (.ishr, 1) := by decide +kernel
theorem dX7_isReached_6 : decode cX7_isReached 6 = .ok (.iconst 1, 1) := by decide +kernel
theorem dX7_isReached_7 : decode cX7_isReached 7 = .ok (.iand, 1) := by decide +kernel
theorem dX7_isReached_8 : decode cX7_isReached 8 = .ok (.iconst 1, 1) := by decide +kernel
theorem dX7_isReached_9 : decode cX7_isReached 9 = .ok (.if_icmp .ne 7, 3) := by decide +kernel
theorem dX7_isReached_12 : decode cX7_isReached 12 = .ok (.iconst 1, 1) := by decide +kernel
theorem dX7_isReached_13 : decode cX7_isReached 13 = .ok (.goto 4, 3) := by decide +kernel
theorem dX7_isReached_16 : decode cX7_isReached 16 = .ok (.iconst 0, 1) := by decide +kernel
theorem dX7_isReached_17 : decode cX7_isReached 17 = .ok (.ireturn, 1) := by decide +kernel
theorem dX7_field_0 : decode cX7_field 0 = .ok (.aload_n 0, 1) := by decide +kernel
theorem dX7_field_1 : decode cX7_field 1 = .ok (.iload_n 1, 1) := by decide +kernel
theorem dX7_field_2 : decode cX7_field 2 = .ok (.invokevirtual 87, 3) := by decide +kernel
theorem dX7_field_5 : decode cX7_field 5 = .ok (.ifCond .eq 25, 3) := by decide +kernel
theorem dX7_field_8 : decode cX7_field 8 = .ok (.iload_n 2, 1) := by decide +kernel
theorem dX7_field_9 : decode cX7_field 9 = .ok (.iconst 0, 1) := by decide +kernel
theorem dX7_field_10 : decode cX7_field 10 = .ok (.iconst 2, 1) := by decide +kernel
theorem dX7_field_11 : decode cX7_field 11 = .ok (.invokestatic 39, 3) := by decide +kernel
theorem dX7_field_14 : decode cX7_field 14 = .ok (.ifCond .eq 16, 3) := by decide +kernel
theorem dX7_field_17 : decode cX7_field 17 = .ok (.iload_n 3, 1) := by decide +kernel
theorem dX7_field_18 : decode cX7_field 18 = .ok (.iconst (-1), 1) := by decide +kernel
theorem dX7_field_19 : decode cX7_field 19 = .ok (.if_icmp .eq 14, 3) := by decide +kernel
theorem dX7_field_22 : decode cX7_field 22 = .ok (.aload_n 0, 1) := by decide +kernel
theorem dX7_field_23 : decode cX7_field 23 = .ok (.iload_n 3, 1) := by decide +kernel
theorem dX7_field_24 : decode cX7_field 24 = .ok (.invokevirtual 87, 3) := by decide +kernel
theorem dX7_field_27 : decode cX7_field 27 = .ok (.ifCond .ne 6, 3) := by decide +kernel
theorem dX7_field_30 : decode cX7_field 30 = .ok (.bipush (-11), 2) := by decide +kernel
theorem dX7_field_32 : decode cX7_field 32 = .ok (.ireturn, 1) := by decide +kernel
theorem dX7_field_33 : decode cX7_field 33 = .ok (.aload_n 0, 1) := by decide +kernel
theorem dX7_field_34 : decode cX7_field 34 = .ok (.iload_n 1, 1) := by decide +kernel
theorem dX7_field_35 : decode cX7_field 35 = .ok (.invokevirtual 90, 3) := by decide +kernel
theorem dX7_field_38 : decode cX7_field 38 = .ok (.ifCond .eq 15, 3) := by decide +kernel
theorem dX7_field_41 : decode cX7_field 41 = .ok (.iload_n 3, 1) := by decide +kernel
theorem dX7_field_42 : decode cX7_field 42 = .ok (.ifCond .lt 14, 3) := by decide +kernel
theorem dX7_field_45 : decode cX7_field 45 = .ok (.aload_n 0, 1) := by decide +kernel
theorem dX7_field_46 : decode cX7_field 46 = .ok (.iload_n 3, 1) := by decide +kernel
theorem dX7_field_47 : decode cX7_field 47 = .ok (.invokevirtual 90, 3) := by decide +kernel
theorem dX7_field_50 : decode cX7_field 50 = .ok (.ifCond .ne 6, 3) := by decide +kernel
theorem dX7_field_53 : decode cX7_field 53 = .ok (.bipush (-12), 2) := by decide +kernel
theorem dX7_field_55 : decode cX7_field 55 = .ok (.ireturn, 1) := by decide +kernel
theorem dX7_field_56 : decode cX7_field 56 = .ok (.aload_n 0, 1) := by decide +kernel
theorem dX7_field_57 : decode cX7_field 57 = .ok (.invokevirtual 81, 3) := by decide +kernel
theorem dX7_field_60 : decode cX7_field 60 = .ok (.aload_n 0, 1) := by decide +kernel
theorem dX7_field_61 : decode cX7_field 61 = .ok (.iload_n 1, 1) := by decide +kernel
theorem dX7_field_62 : decode cX7_field 62 = .ok (.iconst 1, 1) := by decide +kernel
theorem dX7_field_63 : decode cX7_field 63 = .ok (.iload_n 2, 1) := by decide +kernel
theorem dX7_field_64 : decode cX7_field 64 = .ok (.iadd, 1) := by decide +kernel
theorem dX7_field_65 : decode cX7_field 65 = .ok (.invokevirtual 43, 3) := by decide +kernel
theorem dX7_field_68 : decode cX7_field 68 = .ok (.istore 4, 2) := by decide +kernel
theorem dX7_field_70 : decode cX7_field 70 = .ok (.aload_n 0, 1) := by decide +kernel
theorem dX7_field_71 : decode cX7_field 71 = .ok (.iload_n 1, 1) := by decide +kernel
theorem dX7_field_72 : decode cX7_field 72 = .ok (.iconst 1, 1) := by decide +kernel
theorem dX7_field_73 : decode cX7_field 73 = .ok (.iload_n 2, 1) := by decide +kernel
theorem dX7_field_74 : decode cX7_field 74 = .ok (.iadd, 1) := by decide +kernel
theorem dX7_field_75 : decode cX7_field 75 = .ok (.iload_n 3, 1) := by decide +kernel
theorem dX7_field_76 : decode cX7_field 76 = .ok (.invokevirtual 58, 3) := by decide +kernel
theorem dX7_field_79 : decode cX7_field 79 = .ok (.aload_n 0, 1) := by decide +kernel
theorem dX7_field_80 : decode cX7_field 80 = .ok (.iload 4, 2) := by decide +kernel
theorem dX7_field_82 : decode cX7_field 82 = .ok (.iload_n 3, 1) := by decide +kernel
theorem dX7_field_83 : decode cX7_field 83 = .ok (.aload_n 0, 1) := by decide +kernel
theorem dX7_field_84 : decode cX7_field 84 = .ok (.iload_n 1, 1) := by decide +kernel
theorem dX7_field_85 : decode cX7_field 85 = .ok (.iconst 5, 1) := by decide +kernel
theorem dX7_field_86 : decode cX7_field 86 = .ok (.invokevirtual 43, 3) := by decide +kernel
theorem dX7_field_89 : decode cX7_field 89 = .ok (.iconst 2, 1) := by decide +kernel
theorem dX7_field_90 : decode cX7_field 90 = .ok (.if_icmp .ne 7, 3) := by decide +kernel
theorem dX7_field_93 : decode cX7_field 93 = .ok (.iconst 1, 1) := by decide +kernel
theorem dX7_field_94 : decode cX7_field 94 = .ok (.goto 4, 3) := by decide +kernel
theorem dX7_field_97 : decode cX7_field 97 = .ok (.iconst 0, 1) := by decide +kernel
theorem dX7_field_98 : decode cX7_field 98 = .ok (.invokevirtual 70, 3) := by decide +kernel
theorem dX7_field_101 : decode cX7_field 101 = .ok (.iload 4, 2) := by decide +kernel
theorem dX7_field_103 : decode cX7_field 103 = .ok (.ireturn, 1) := by decide +kernel
theorem dX7_lowestFree_0 : decode cX7_lowestFree 0 = .ok (.iconst 0, 1) := by decide +kernel
theorem dX7_lowestFree_1 : decode cX7_lowestFree 1 = .ok (.istore_n 1, 1) := by decide +kernel
theorem dX7_lowestFree_2 : decode cX7_lowestFree 2 = .ok (.iload_n 1, 1) := by decide +kernel
theorem dX7_lowestFree_3 : decode cX7_lowestFree 3 = .ok (.bipush 24, 2) := by decide +kernel
theorem dX7_lowestFree_5 : decode cX7_lowestFree 5 = .ok (.if_icmp .ge 20, 3) := by decide +kernel
theorem dX7_lowestFree_8 : decode cX7_lowestFree 8 = .ok (.aload_n 0, 1) := by decide +kernel
theorem dX7_lowestFree_9 : decode cX7_lowestFree 9 = .ok (.iload_n 1, 1) := by decide +kernel
theorem dX7_lowestFree_10 : decode cX7_lowestFree 10 = .ok (.iconst 0, 1) := by decide +kernel
theorem dX7_lowestFree_11 : decode cX7_lowestFree 11 = .ok (.invokevirtual 43, 3) := by decide +kernel
theorem dX7_lowestFree_14 : decode cX7_lowestFree 14 = .ok (.ifCond .ne 5, 3) := by decide +kernel
theorem dX7_lowestFree_17 : decode cX7_lowestFree 17 = .ok (.iload_n 1, 1) := by decide +kernel
theorem dX7_lowestFree_18 : decode cX7_lowestFree 18 = .ok (.ireturn, 1) := by decide +kernel
theorem dX7_lowestFree_19 : decode cX7_lowestFree 19 = .ok (.iinc 1 1, 3) := by decide +kernel
theorem dX7_lowestFree_22 : decode cX7_lowestFree 22 = .ok (.goto (-20), 3) := by decide +kernel
theorem dX7_lowestFree_25 : decode cX7_lowestFree 25 = .ok (.bipush (-14), 2) := by decide +kernel
theorem dX7_lowestFree_27 : decode cX7_lowestFree 27 = .ok (.ireturn, 1) := by decide +kernel
theorem dX7_make_0 : decode cX7_make 0 = .ok (.iload_n 1, 1) := by decide +kernel
theorem dX7_make_1 : decode cX7_make 1 = .ok (.invokestatic 74, 3) := by decide +kernel
theorem dX7_make_4 : decode cX7_make 4 = .ok (.ifCond .ne 6, 3) := by decide +kernel
theorem dX7_make_7 : decode cX7_make 7 = .ok (.bipush (-11), 2) := by decide +kernel
theorem dX7_make_9 : decode cX7_make 9 = .ok (.ireturn, 1) := by decide +kernel
theorem dX7_make_10 : decode cX7_make 10 = .ok (.aload_n 0, 1) := by decide +kernel
theorem dX7_make_11 : decode cX7_make 11 = .ok (.invokevirtual 78, 3) := by decide +kernel
theorem dX7_make_14 : decode cX7_make 14 = .ok (.istore_n 2, 1) := by decide +kernel
theorem dX7_make_15 : decode cX7_make 15 = .ok (.iload_n 2, 1) := by decide +kernel
theorem dX7_make_16 : decode cX7_make 16 = .ok (.ifCond .ge 6, 3) := by decide +kernel
theorem dX7_make_19 : decode cX7_make 19 = .ok (.bipush (-13), 2) := by decide +kernel
theorem dX7_make_21 : decode cX7_make 21 = .ok (.ireturn, 1) := by decide +kernel
theorem dX7_make_22 : decode cX7_make 22 = .ok (.aload_n 0, 1) := by decide +kernel
theorem dX7_make_23 : decode cX7_make 23 = .ok (.invokevirtual 81, 3) := by decide +kernel
theorem dX7_make_26 : decode cX7_make 26 = .ok (.aload_n 0, 1) := by decide +kernel
theorem dX7_make_27 : decode cX7_make 27 = .ok (.iload_n 2, 1) := by decide +kernel
theorem dX7_make_28 : decode cX7_make 28 = .ok (.iconst 0, 1) := by decide +kernel
theorem dX7_make_29 : decode cX7_make 29 = .ok (.iconst 1, 1) := by decide +kernel
theorem dX7_make_30 : decode cX7_make 30 = .ok (.invokevirtual 58, 3) := by decide +kernel
theorem dX7_make_33 : decode cX7_make 33 = .ok (.iconst 0, 1) := by decide +kernel
theorem dX7_make_34 : decode cX7_make 34 = .ok (.istore_n 3, 1) := by decide +kernel
theorem dX7_make_35 : decode cX7_make 35 = .ok (.iload_n 3, 1) := by decide +kernel
theorem dX7_make_36 : decode cX7_make 36 = .ok (.iconst 3, 1) := by decide +kernel
theorem dX7_make_37 : decode cX7_make 37 = .ok (.if_icmp .ge 18, 3) := by decide +kernel
theorem dX7_make_40 : decode cX7_make 40 = .ok (.aload_n 0, 1) := by decide +kernel
theorem dX7_make_41 : decode cX7_make 41 = .ok (.iload_n 2, 1) := by decide +kernel
theorem dX7_make_42 : decode cX7_make 42 = .ok (.iconst 1, 1) := by decide +kernel
theorem dX7_make_43 : decode cX7_make 43 = .ok (.iload_n 3, 1) := by decide +kernel
theorem dX7_make_44 : decode cX7_make 44 = .ok (.iadd, 1) := by decide +kernel
theorem dX7_make_45 : decode cX7_make 45 = .ok (.iconst (-1), 1) := by decide +kernel
theorem dX7_make_46 : decode cX7_make 46 = .ok (.invokevirtual 58, 3) := by decide +kernel
theorem dX7_make_49 : decode cX7_make 49 = .ok (.iinc 3 1, 3) := by decide +kernel
theorem dX7_make_52 : decode cX7_make 52 = .ok (.goto (-17), 3) := by decide +kernel
theorem dX7_make_55 : decode cX7_make 55 = .ok (.aload_n 0, 1) := by decide +kernel
theorem dX7_make_56 : decode cX7_make 56 = .ok (.iload_n 2, 1) := by decide +kernel
theorem dX7_make_57 : decode cX7_make 57 = .ok (.iconst 4, 1) := by decide +kernel
theorem dX7_make_58 : decode cX7_make 58 = .ok (.iconst 0, 1) := by decide +kernel
theorem dX7_make_59 : decode cX7_make 59 = .ok (.invokevirtual 58, 3) := by decide +kernel
theorem dX7_make_62 : decode cX7_make 62 = .ok (.aload_n 0, 1) := by decide +kernel
theorem dX7_make_63 : decode cX7_make 63 = .ok (.iload_n 2, 1) := by decide +kernel
theorem dX7_make_64 : decode cX7_make 64 = .ok (.iconst 5, 1) := by decide +kernel
theorem dX7_make_65 : decode cX7_make 65 = .ok (.aload_n 0, 1) := by decide +kernel
theorem dX7_make_66 : decode cX7_make 66 = .ok (.invokevirtual 62, 3) := by decide +kernel
theorem dX7_make_69 : decode cX7_make 69 = .ok (.ifCond .ne 27, 3) := by decide +kernel
theorem dX7_make_72 : decode cX7_make 72 = .ok (.aload_n 0, 1) := by decide +kernel
theorem dX7_make_73 : decode cX7_make 73 = .ok (.getfield 7, 3) := by decide +kernel
theorem dX7_make_76 : decode cX7_make 76 = .ok (.sipush 226, 3) := by decide +kernel
theorem dX7_make_79 : decode cX7_make 79 = .ok (.iaload, 1) := by decide +kernel
theorem dX7_make_80 : decode cX7_make 80 = .ok (.iconst 3, 1) := by decide +kernel
theorem dX7_make_81 : decode cX7_make 81 = .ok (.if_icmp .ne 19, 3) := by decide +kernel
theorem dX7_make_84 : decode cX7_make 84 = .ok (.iload_n 2, 1) := by decide +kernel
theorem dX7_make_85 : decode cX7_make 85 = .ok (.aload_n 0, 1) := by decide +kernel
theorem dX7_make_86 : decode cX7_make 86 = .ok (.getfield 7, 3) := by decide +kernel
theorem dX7_make_89 : decode cX7_make 89 = .ok (.sipush 227, 3) := by decide +kernel
theorem dX7_make_92 : decode cX7_make 92 = .ok (.iaload, 1) := by decide +kernel
theorem dX7_make_93 : decode cX7_make 93 = .ok (.if_icmp .lt 7, 3) := by decide +kernel
theorem dX7_make_96 : decode cX7_make 96 = .ok (.iconst 2, 1) := by decide +kernel
theorem dX7_make_97 : decode cX7_make 97 = .ok (.goto 4, 3) := by decide +kernel
theorem dX7_make_100 : decode cX7_make 100 = .ok (.iconst 0, 1) := by decide +kernel
theorem dX7_make_101 : decode cX7_make 101 = .ok (.invokevirtual 58, 3) := by decide +kernel
theorem dX7_make_104 : decode cX7_make 104 = .ok (.aload_n 0, 1) := by decide +kernel
theorem dX7_make_105 : decode cX7_make 105 = .ok (.iload_n 2, 1) := by decide +kernel
theorem dX7_make_106 : decode cX7_make 106 = .ok (.bipush 6, 2) := by decide +kernel
theorem dX7_make_108 : decode cX7_make 108 = .ok (.iconst 0, 1) := by decide +kernel
theorem dX7_make_109 : decode cX7_make 109 = .ok (.invokevirtual 58, 3) := by decide +kernel
theorem dX7_make_112 : decode cX7_make 112 = .ok (.aload_n 0, 1) := by decide +kernel
theorem dX7_make_113 : decode cX7_make 113 = .ok (.getfield 7, 3) := by decide +kernel
theorem dX7_make_116 : decode cX7_make 116 = .ok (.sipush 229, 3) := by decide +kernel
theorem dX7_make_119 : decode cX7_make 119 = .ok (.dup2, 1) := by decide +kernel
theorem dX7_make_120 : decode cX7_make 120 = .ok (.iaload, 1) := by decide +kernel
theorem dX7_make_121 : decode cX7_make 121 = .ok (.iconst 1, 1) := by decide +kernel
theorem dX7_make_122 : decode cX7_make 122 = .ok (.iadd, 1) := by decide +kernel
theorem dX7_make_123 : decode cX7_make 123 = .ok (.iastore, 1) := by decide +kernel
theorem dX7_make_124 : decode cX7_make 124 = .ok (.aload_n 0, 1) := by decide +kernel
theorem dX7_make_125 : decode cX7_make 125 = .ok (.iload_n 1, 1) := by decide +kernel
theorem dX7_make_126 : decode cX7_make 126 = .ok (.iload_n 2, 1) := by decide +kernel
theorem dX7_make_127 : decode cX7_make 127 = .ok (.invokevirtual 84, 3) := by decide +kernel
theorem dX7_make_130 : decode cX7_make 130 = .ok (.istore_n 3, 1) := by decide +kernel
theorem dX7_make_131 : decode cX7_make 131 = .ok (.iload_n 3, 1) := by decide +kernel
theorem dX7_make_132 : decode cX7_make 132 = .ok (.bipush 24, 2) := by decide +kernel
theorem dX7_make_134 : decode cX7_make 134 = .ok (.if_icmp .ge 7, 3) := by decide +kernel
theorem dX7_make_137 : decode cX7_make 137 = .ok (.iload_n 2, 1) := by decide +kernel
theorem dX7_make_138 : decode cX7_make 138 = .ok (.goto 4, 3) := by decide +kernel
theorem dX7_make_141 : decode cX7_make 141 = .ok (.iload_n 3, 1) := by decide +kernel
theorem dX7_make_142 : decode cX7_make 142 = .ok (.ireturn, 1) := by decide +kernel
theorem dX7_root_0 : decode cX7_root 0 = .ok (.iload_n 1, 1) := by decide +kernel
theorem dX7_root_1 : decode cX7_root 1 = .ok (.invokestatic 74, 3) := by decide +kernel
theorem dX7_root_4 : decode cX7_root 4 = .ok (.ifCond .eq 16, 3) := by decide +kernel
theorem dX7_root_7 : decode cX7_root 7 = .ok (.iload_n 2, 1) := by decide +kernel
theorem dX7_root_8 : decode cX7_root 8 = .ok (.iconst (-1), 1) := by decide +kernel
theorem dX7_root_9 : decode cX7_root 9 = .ok (.if_icmp .eq 14, 3) := by decide +kernel
theorem dX7_root_12 : decode cX7_root 12 = .ok (.aload_n 0, 1) := by decide +kernel
theorem dX7_root_13 : decode cX7_root 13 = .ok (.iload_n 2, 1) := by decide +kernel
theorem dX7_root_14 : decode cX7_root 14 = .ok (.invokevirtual 87, 3) := by decide +kernel
theorem dX7_root_17 : decode cX7_root 17 = .ok (.ifCond .ne 6, 3) := by decide +kernel
theorem dX7_root_20 : decode cX7_root 20 = .ok (.bipush (-11), 2) := by decide +kernel
theorem dX7_root_22 : decode cX7_root 22 = .ok (.ireturn, 1) := by decide +kernel
theorem dX7_root_23 : decode cX7_root 23 = .ok (.iload_n 2, 1) := by decide +kernel
theorem dX7_root_24 : decode cX7_root 24 = .ok (.ifCond .lt 14, 3) := by decide +kernel
theorem dX7_root_27 : decode cX7_root 27 = .ok (.aload_n 0, 1) := by decide +kernel
theorem dX7_root_28 : decode cX7_root 28 = .ok (.iload_n 2, 1) := by decide +kernel
theorem dX7_root_29 : decode cX7_root 29 = .ok (.invokevirtual 90, 3) := by decide +kernel
theorem dX7_root_32 : decode cX7_root 32 = .ok (.ifCond .ne 6, 3) := by decide +kernel
theorem dX7_root_35 : decode cX7_root 35 = .ok (.bipush (-12), 2) := by decide +kernel
theorem dX7_root_37 : decode cX7_root 37 = .ok (.ireturn, 1) := by decide +kernel
theorem dX7_root_38 : decode cX7_root 38 = .ok (.aload_n 0, 1) := by decide +kernel
theorem dX7_root_39 : decode cX7_root 39 = .ok (.invokevirtual 81, 3) := by decide +kernel
theorem dX7_root_42 : decode cX7_root 42 = .ok (.aload_n 0, 1) := by decide +kernel
theorem dX7_root_43 : decode cX7_root 43 = .ok (.iload_n 1, 1) := by decide +kernel
theorem dX7_root_44 : decode cX7_root 44 = .ok (.iload_n 2, 1) := by decide +kernel
theorem dX7_root_45 : decode cX7_root 45 = .ok (.invokevirtual 84, 3) := by decide +kernel
theorem dX7_root_48 : decode cX7_root 48 = .ok (.ireturn, 1) := by decide +kernel
theorem dX7_step_0 : decode cX7_step 0 = .ok (.iload_n 1, 1) := by decide +kernel
theorem dX7_step_1 : decode cX7_step 1 = .ok (.iconst 1, 1) := by decide +kernel
theorem dX7_step_2 : decode cX7_step 2 = .ok (.bipush 99, 2) := by decide +kernel
theorem dX7_step_4 : decode cX7_step 4 = .ok (.invokestatic 39, 3) := by decide +kernel
theorem dX7_step_7 : decode cX7_step 7 = .ok (.ifCond .ne 6, 3) := by decide +kernel
theorem dX7_step_10 : decode cX7_step 10 = .ok (.bipush (-11), 2) := by decide +kernel
theorem dX7_step_12 : decode cX7_step 12 = .ok (.ireturn, 1) := by decide +kernel
theorem dX7_step_13 : decode cX7_step 13 = .ok (.aload_n 0, 1) := by decide +kernel
theorem dX7_step_14 : decode cX7_step 14 = .ok (.getfield 7, 3) := by decide +kernel
theorem dX7_step_17 : decode cX7_step 17 = .ok (.sipush 226, 3) := by decide +kernel
theorem dX7_step_20 : decode cX7_step 20 = .ok (.iaload, 1) := by decide +kernel
theorem dX7_step_21 : decode cX7_step 21 = .ok (.ifCond .ne 6, 3) := by decide +kernel
theorem dX7_step_24 : decode cX7_step 24 = .ok (.bipush (-12), 2) := by decide +kernel
theorem dX7_step_26 : decode cX7_step 26 = .ok (.ireturn, 1) := by decide +kernel
theorem dX7_step_27 : decode cX7_step 27 = .ok (.aload_n 0, 1) := by decide +kernel
theorem dX7_step_28 : decode cX7_step 28 = .ok (.invokevirtual 81, 3) := by decide +kernel
theorem dX7_step_31 : decode cX7_step 31 = .ok (.aload_n 0, 1) := by decide +kernel
theorem dX7_step_32 : decode cX7_step 32 = .ok (.getfield 7, 3) := by decide +kernel
theorem dX7_step_35 : decode cX7_step 35 = .ok (.sipush 230, 3) := by decide +kernel
theorem dX7_step_38 : decode cX7_step 38 = .ok (.iaload, 1) := by decide +kernel
theorem dX7_step_39 : decode cX7_step 39 = .ok (.istore_n 2, 1) := by decide +kernel
theorem dX7_step_40 : decode cX7_step 40 = .ok (.iconst 0, 1) := by decide +kernel
theorem dX7_step_41 : decode cX7_step 41 = .ok (.istore_n 3, 1) := by decide +kernel
theorem dX7_step_42 : decode cX7_step 42 = .ok (.iload_n 3, 1) := by decide +kernel
theorem dX7_step_43 : decode cX7_step 43 = .ok (.iload_n 1, 1) := by decide +kernel
theorem dX7_step_44 : decode cX7_step 44 = .ok (.if_icmp .ge 24, 3) := by decide +kernel
theorem dX7_step_47 : decode cX7_step 47 = .ok (.aload_n 0, 1) := by decide +kernel
theorem dX7_step_48 : decode cX7_step 48 = .ok (.getfield 7, 3) := by decide +kernel
theorem dX7_step_51 : decode cX7_step 51 = .ok (.sipush 226, 3) := by decide +kernel
theorem dX7_step_54 : decode cX7_step 54 = .ok (.iaload, 1) := by decide +kernel
theorem dX7_step_55 : decode cX7_step 55 = .ok (.ifCond .le 13, 3) := by decide +kernel
theorem dX7_step_58 : decode cX7_step 58 = .ok (.aload_n 0, 1) := by decide +kernel
theorem dX7_step_59 : decode cX7_step 59 = .ok (.invokevirtual 117, 3) := by decide +kernel
theorem dX7_step_62 : decode cX7_step 62 = .ok (.iinc 3 1, 3) := by decide +kernel
theorem dX7_step_65 : decode cX7_step 65 = .ok (.goto (-23), 3) := by decide +kernel
theorem dX7_step_68 : decode cX7_step 68 = .ok (.aload_n 0, 1) := by decide +kernel
theorem dX7_step_69 : decode cX7_step 69 = .ok (.getfield 7, 3) := by decide +kernel
theorem dX7_step_72 : decode cX7_step 72 = .ok (.sipush 230, 3) := by decide +kernel
theorem dX7_step_75 : decode cX7_step 75 = .ok (.iaload, 1) := by decide +kernel
theorem dX7_step_76 : decode cX7_step 76 = .ok (.iload_n 2, 1) := by decide +kernel
theorem dX7_step_77 : decode cX7_step 77 = .ok (.isub, 1) := by decide +kernel
theorem dX7_step_78 : decode cX7_step 78 = .ok (.ireturn, 1) := by decide +kernel
theorem dX7_calls_0 : decode cX7_calls 0 = .ok (.aload_n 0, 1) := by decide +kernel
theorem dX7_calls_1 : decode cX7_calls 1 = .ok (.getfield 158, 3) := by decide +kernel
theorem dX7_calls_4 : decode cX7_calls 4 = .ok (.lookupswitch 88 #[(98, 44), (110, 49), (114, 71), (115, 60)], 44) := by decide +kernel
theorem dX7_calls_48 : decode cX7_calls 48 = .ok (.aload_n 0, 1) := by decide +kernel
theorem dX7_calls_49 : decode cX7_calls 49 = .ok (.invokevirtual 164, 3) := by decide +kernel
theorem dX7_calls_52 : decode cX7_calls 52 = .ok (.ireturn, 1) := by decide +kernel
theorem dX7_calls_53 : decode cX7_calls 53 = .ok (.aload_n 0, 1) := by decide +kernel
theorem dX7_calls_54 : decode cX7_calls 54 = .ok (.aload_n 0, 1) := by decide +kernel
theorem dX7_calls_55 : decode cX7_calls 55 = .ok (.getfield 28, 3) := by decide +kernel
theorem dX7_calls_58 : decode cX7_calls 58 = .ok (.iconst 0, 1) := by decide +kernel
theorem dX7_calls_59 : decode cX7_calls 59 = .ok (.iaload, 1) := by decide +kernel
theorem dX7_calls_60 : decode cX7_calls 60 = .ok (.invokevirtual 167, 3) := by decide +kernel
theorem dX7_calls_63 : decode cX7_calls 63 = .ok (.ireturn, 1) := by decide +kernel
theorem dX7_calls_64 : decode cX7_calls 64 = .ok (.aload_n 0, 1) := by decide +kernel
theorem dX7_calls_65 : decode cX7_calls 65 = .ok (.aload_n 0, 1) := by decide +kernel
theorem dX7_calls_66 : decode cX7_calls 66 = .ok (.getfield 28, 3) := by decide +kernel
theorem dX7_calls_69 : decode cX7_calls 69 = .ok (.iconst 0, 1) := by decide +kernel
theorem dX7_calls_70 : decode cX7_calls 70 = .ok (.iaload, 1) := by decide +kernel
theorem dX7_calls_71 : decode cX7_calls 71 = .ok (.invokevirtual 170, 3) := by decide +kernel
theorem dX7_calls_74 : decode cX7_calls 74 = .ok (.ireturn, 1) := by decide +kernel
theorem dX7_calls_75 : decode cX7_calls 75 = .ok (.aload_n 0, 1) := by decide +kernel
theorem dX7_calls_76 : decode cX7_calls 76 = .ok (.aload_n 0, 1) := by decide +kernel
theorem dX7_calls_77 : decode cX7_calls 77 = .ok (.getfield 28, 3) := by decide +kernel
theorem dX7_calls_80 : decode cX7_calls 80 = .ok (.iconst 0, 1) := by decide +kernel
theorem dX7_calls_81 : decode cX7_calls 81 = .ok (.iaload, 1) := by decide +kernel
theorem dX7_calls_82 : decode cX7_calls 82 = .ok (.aload_n 0, 1) := by decide +kernel
theorem dX7_calls_83 : decode cX7_calls 83 = .ok (.getfield 28, 3) := by decide +kernel
theorem dX7_calls_86 : decode cX7_calls 86 = .ok (.iconst 1, 1) := by decide +kernel
theorem dX7_calls_87 : decode cX7_calls 87 = .ok (.iaload, 1) := by decide +kernel
theorem dX7_calls_88 : decode cX7_calls 88 = .ok (.invokevirtual 173, 3) := by decide +kernel
theorem dX7_calls_91 : decode cX7_calls 91 = .ok (.ireturn, 1) := by decide +kernel
theorem dX7_calls_92 : decode cX7_calls 92 = .ok (.aload_n 0, 1) := by decide +kernel
theorem dX7_calls_93 : decode cX7_calls 93 = .ok (.aload_n 0, 1) := by decide +kernel
theorem dX7_calls_94 : decode cX7_calls 94 = .ok (.getfield 28, 3) := by decide +kernel
theorem dX7_calls_97 : decode cX7_calls 97 = .ok (.iconst 0, 1) := by decide +kernel
theorem dX7_calls_98 : decode cX7_calls 98 = .ok (.iaload, 1) := by decide +kernel
theorem dX7_calls_99 : decode cX7_calls 99 = .ok (.aload_n 0, 1) := by decide +kernel
theorem dX7_calls_100 : decode cX7_calls 100 = .ok (.getfield 28, 3) := by decide +kernel
theorem dX7_calls_103 : decode cX7_calls 103 = .ok (.iconst 1, 1) := by decide +kernel
theorem dX7_calls_104 : decode cX7_calls 104 = .ok (.iaload, 1) := by decide +kernel
theorem dX7_calls_105 : decode cX7_calls 105 = .ok (.aload_n 0, 1) := by decide +kernel
theorem dX7_calls_106 : decode cX7_calls 106 = .ok (.getfield 28, 3) := by decide +kernel
theorem dX7_calls_109 : decode cX7_calls 109 = .ok (.iconst 2, 1) := by decide +kernel
theorem dX7_calls_110 : decode cX7_calls 110 = .ok (.iaload, 1) := by decide +kernel
theorem dX7_calls_111 : decode cX7_calls 111 = .ok (.invokevirtual 176, 3) := by decide +kernel
theorem dX7_calls_114 : decode cX7_calls 114 = .ok (.ireturn, 1) := by decide +kernel
theorem dX7_clearText_0 : decode cX7_clearText 0 = .ok (.aload_n 0, 1) := by decide +kernel
theorem dX7_clearText_1 : decode cX7_clearText 1 = .ok (.getfield 132, 3) := by decide +kernel
theorem dX7_clearText_4 : decode cX7_clearText 4 = .ok (.istore_n 1, 1) := by decide +kernel
theorem dX7_clearText_5 : decode cX7_clearText 5 = .ok (.aload_n 0, 1) := by decide +kernel
theorem dX7_clearText_6 : decode cX7_clearText 6 = .ok (.iconst 0, 1) := by decide +kernel
theorem dX7_clearText_7 : decode cX7_clearText 7 = .ok (.putfield 132, 3) := by decide +kernel
theorem dX7_clearText_10 : decode cX7_clearText 10 = .ok (.iload_n 1, 1) := by decide +kernel
theorem dX7_clearText_11 : decode cX7_clearText 11 = .ok (.ireturn, 1) := by decide +kernel
theorem dX7_those_0 : decode cX7_those 0 = .ok (.iconst 0, 1) := by decide +kernel
theorem dX7_those_1 : decode cX7_those 1 = .ok (.istore_n 3, 1) := by decide +kernel
theorem dX7_those_2 : decode cX7_those 2 = .ok (.iconst 0, 1) := by decide +kernel
theorem dX7_those_3 : decode cX7_those 3 = .ok (.istore 4, 2) := by decide +kernel
theorem dX7_those_5 : decode cX7_those 5 = .ok (.iload 4, 2) := by decide +kernel
theorem dX7_those_7 : decode cX7_those 7 = .ok (.bipush 24, 2) := by decide +kernel
theorem dX7_those_9 : decode cX7_those 9 = .ok (.if_icmp .ge 40, 3) := by decide +kernel
theorem dX7_those_12 : decode cX7_those 12 = .ok (.iload_n 3, 1) := by decide +kernel
theorem dX7_those_13 : decode cX7_those 13 = .ok (.aload_n 0, 1) := by decide +kernel
theorem dX7_those_14 : decode cX7_those 14 = .ok (.iload 4, 2) := by decide +kernel
theorem dX7_those_16 : decode cX7_those 16 = .ok (.invokevirtual 87, 3) := by decide +kernel
theorem dX7_those_19 : decode cX7_those 19 = .ok (.ifCond .eq 21, 3) := by decide +kernel
theorem dX7_those_22 : decode cX7_those 22 = .ok (.aload_n 0, 1) := by decide +kernel
theorem dX7_those_23 : decode cX7_those 23 = .ok (.iload 4, 2) := by decide +kernel
theorem dX7_those_25 : decode cX7_those 25 = .ok (.iload_n 1, 1) := by decide +kernel
theorem dX7_those_26 : decode cX7_those 26 = .ok (.invokevirtual 43, 3) := by decide +kernel
theorem dX7_those_29 : decode cX7_those 29 = .ok (.iload_n 2, 1) := by decide +kernel
theorem dX7_those_30 : decode cX7_those 30 = .ok (.if_icmp .ne 10, 3) := by decide +kernel
theorem dX7_those_33 : decode cX7_those 33 = .ok (.iconst 1, 1) := by decide +kernel
theorem dX7_those_34 : decode cX7_those 34 = .ok (.iload 4, 2) := by decide +kernel
theorem dX7_those_36 : decode cX7_those 36 = .ok (.ishl, 1) := by decide +kernel
theorem dX7_those_37 : decode cX7_those 37 = .ok (.goto 4, 3) := by decide +kernel
theorem dX7_those_40 : decode cX7_those 40 = .ok (.iconst 0, 1) := by decide +kernel
theorem dX7_those_41 : decode cX7_those 41 = .ok (.ior, 1) := by decide +kernel
theorem dX7_those_42 : decode cX7_those 42 = .ok (.istore_n 3, 1) := by decide +kernel
theorem dX7_those_43 : decode cX7_those 43 = .ok (.iinc 4 1, 3) := by decide +kernel
theorem dX7_those_46 : decode cX7_those 46 = .ok (.goto (-41), 3) := by decide +kernel
theorem dX7_those_49 : decode cX7_those 49 = .ok (.iload_n 3, 1) := by decide +kernel
theorem dX7_those_50 : decode cX7_those 50 = .ok (.ireturn, 1) := by decide +kernel
theorem dX7_count_0 : decode cX7_count 0 = .ok (.iload_n 1, 1) := by decide +kernel
theorem dX7_count_1 : decode cX7_count 1 = .ok (.tableswitch 191 0 12 #[67, 77, 86, 86, 86, 86, 99, 108, 134, 159, 168, 173, 178], 67) := by decide +kernel
theorem dX7_count_68 : decode cX7_count 68 = .ok (.aload_n 0, 1) := by decide +kernel
theorem dX7_count_69 : decode cX7_count 69 = .ok (.iconst 0, 1) := by decide +kernel
theorem dX7_count_70 : decode cX7_count 70 = .ok (.iconst 1, 1) := by decide +kernel
theorem dX7_count_71 : decode cX7_count 71 = .ok (.invokevirtual 126, 3) := by decide +kernel
theorem dX7_count_74 : decode cX7_count 74 = .ok (.invokestatic 129, 3) := by decide +kernel
theorem dX7_count_77 : decode cX7_count 77 = .ok (.ireturn, 1) := by decide +kernel
theorem dX7_count_78 : decode cX7_count 78 = .ok (.aload_n 0, 1) := by decide +kernel
theorem dX7_count_79 : decode cX7_count 79 = .ok (.getfield 7, 3) := by decide +kernel
theorem dX7_count_82 : decode cX7_count 82 = .ok (.sipush 226, 3) := by decide +kernel
theorem dX7_count_85 : decode cX7_count 85 = .ok (.iaload, 1) := by decide +kernel
theorem dX7_count_86 : decode cX7_count 86 = .ok (.ireturn, 1) := by decide +kernel
theorem dX7_count_87 : decode cX7_count 87 = .ok (.aload_n 0, 1) := by decide +kernel
theorem dX7_count_88 : decode cX7_count 88 = .ok (.getfield 7, 3) := by decide +kernel
theorem dX7_count_91 : decode cX7_count 91 = .ok (.sipush 228, 3) := by decide +kernel
theorem dX7_count_94 : decode cX7_count 94 = .ok (.iload_n 1, 1) := by decide +kernel
theorem dX7_count_95 : decode cX7_count 95 = .ok (.iadd, 1) := by decide +kernel
theorem dX7_count_96 : decode cX7_count 96 = .ok (.iconst 2, 1) := by decide +kernel
theorem dX7_count_97 : decode cX7_count 97 = .ok (.isub, 1) := by decide +kernel
theorem dX7_count_98 : decode cX7_count 98 = .ok (.iaload, 1) := by decide +kernel
theorem dX7_count_99 : decode cX7_count 99 = .ok (.ireturn, 1) := by decide +kernel
theorem dX7_count_100 : decode cX7_count 100 = .ok (.aload_n 0, 1) := by decide +kernel
theorem dX7_count_101 : decode cX7_count 101 = .ok (.getfield 7, 3) := by decide +kernel
theorem dX7_count_104 : decode cX7_count 104 = .ok (.sipush 193, 3) := by decide +kernel
theorem dX7_count_107 : decode cX7_count 107 = .ok (.iaload, 1) := by decide +kernel
theorem dX7_count_108 : decode cX7_count 108 = .ok (.ireturn, 1) := by decide +kernel
theorem dX7_count_109 : decode cX7_count 109 = .ok (.aload_n 0, 1) := by decide +kernel
theorem dX7_count_110 : decode cX7_count 110 = .ok (.getfield 7, 3) := by decide +kernel
theorem dX7_count_113 : decode cX7_count 113 = .ok (.sipush 226, 3) := by decide +kernel
theorem dX7_count_116 : decode cX7_count 116 = .ok (.iaload, 1) := by decide +kernel
theorem dX7_count_117 : decode cX7_count 117 = .ok (.iconst 3, 1) := by decide +kernel
theorem dX7_count_118 : decode cX7_count 118 = .ok (.if_icmp .ne 14, 3) := by decide +kernel
theorem dX7_count_121 : decode cX7_count 121 = .ok (.aload_n 0, 1) := by decide +kernel
theorem dX7_count_122 : decode cX7_count 122 = .ok (.getfield 7, 3) := by decide +kernel
theorem dX7_count_125 : decode cX7_count 125 = .ok (.sipush 227, 3) := by decide +kernel
theorem dX7_count_128 : decode cX7_count 128 = .ok (.iaload, 1) := by decide +kernel
theorem dX7_count_129 : decode cX7_count 129 = .ok (.goto 5, 3) := by decide +kernel
theorem dX7_count_132 : decode cX7_count 132 = .ok (.bipush (-14), 2) := by decide +kernel
theorem dX7_count_134 : decode cX7_count 134 = .ok (.ireturn, 1) := by decide +kernel
theorem dX7_count_135 : decode cX7_count 135 = .ok (.aload_n 0, 1) := by decide +kernel
theorem dX7_count_136 : decode cX7_count 136 = .ok (.getfield 7, 3) := by decide +kernel
theorem dX7_count_139 : decode cX7_count 139 = .ok (.sipush 228, 3) := by decide +kernel
theorem dX7_count_142 : decode cX7_count 142 = .ok (.iaload, 1) := by decide +kernel
theorem dX7_count_143 : decode cX7_count 143 = .ok (.ifCond .ne 8, 3) := by decide +kernel
theorem dX7_count_146 : decode cX7_count 146 = .ok (.bipush (-14), 2) := by decide +kernel
theorem dX7_count_148 : decode cX7_count 148 = .ok (.goto 11, 3) := by decide +kernel
theorem dX7_count_151 : decode cX7_count 151 = .ok (.aload_n 0, 1) := by decide +kernel
theorem dX7_count_152 : decode cX7_count 152 = .ok (.getfield 7, 3) := by decide +kernel
theorem dX7_count_155 : decode cX7_count 155 = .ok (.sipush 232, 3) := by decide +kernel
theorem dX7_count_158 : decode cX7_count 158 = .ok (.iaload, 1) := by decide +kernel
theorem dX7_count_159 : decode cX7_count 159 = .ok (.ireturn, 1) := by decide +kernel
theorem dX7_count_160 : decode cX7_count 160 = .ok (.aload_n 0, 1) := by decide +kernel
theorem dX7_count_161 : decode cX7_count 161 = .ok (.getfield 7, 3) := by decide +kernel
theorem dX7_count_164 : decode cX7_count 164 = .ok (.sipush 234, 3) := by decide +kernel
theorem dX7_count_167 : decode cX7_count 167 = .ok (.iaload, 1) := by decide +kernel
theorem dX7_count_168 : decode cX7_count 168 = .ok (.ireturn, 1) := by decide +kernel
theorem dX7_count_169 : decode cX7_count 169 = .ok (.aload_n 0, 1) := by decide +kernel
theorem dX7_count_170 : decode cX7_count 170 = .ok (.getfield 35, 3) := by decide +kernel
theorem dX7_count_173 : decode cX7_count 173 = .ok (.ireturn, 1) := by decide +kernel
theorem dX7_count_174 : decode cX7_count 174 = .ok (.aload_n 0, 1) := by decide +kernel
theorem dX7_count_175 : decode cX7_count 175 = .ok (.getfield 132, 3) := by decide +kernel
theorem dX7_count_178 : decode cX7_count 178 = .ok (.ireturn, 1) := by decide +kernel
theorem dX7_count_179 : decode cX7_count 179 = .ok (.aload_n 0, 1) := by decide +kernel
theorem dX7_count_180 : decode cX7_count 180 = .ok (.getfield 135, 3) := by decide +kernel
theorem dX7_count_183 : decode cX7_count 183 = .ok (.ifCond .eq 7, 3) := by decide +kernel
theorem dX7_count_186 : decode cX7_count 186 = .ok (.iconst 1, 1) := by decide +kernel
theorem dX7_count_187 : decode cX7_count 187 = .ok (.goto 4, 3) := by decide +kernel
theorem dX7_count_190 : decode cX7_count 190 = .ok (.iconst 0, 1) := by decide +kernel
theorem dX7_count_191 : decode cX7_count 191 = .ok (.ireturn, 1) := by decide +kernel
theorem dX7_count_192 : decode cX7_count 192 = .ok (.bipush (-11), 2) := by decide +kernel
theorem dX7_count_194 : decode cX7_count 194 = .ok (.ireturn, 1) := by decide +kernel
theorem dX7_far_0 : decode cX7_far 0 = .ok (.aload_n 0, 1) := by decide +kernel
theorem dX7_far_1 : decode cX7_far 1 = .ok (.iload_n 1, 1) := by decide +kernel
theorem dX7_far_2 : decode cX7_far 2 = .ok (.invokevirtual 87, 3) := by decide +kernel
theorem dX7_far_5 : decode cX7_far 5 = .ok (.ifCond .ne 6, 3) := by decide +kernel
theorem dX7_far_8 : decode cX7_far 8 = .ok (.bipush (-11), 2) := by decide +kernel
theorem dX7_far_10 : decode cX7_far 10 = .ok (.ireturn, 1) := by decide +kernel
theorem dX7_far_11 : decode cX7_far 11 = .ok (.iconst 0, 1) := by decide +kernel
theorem dX7_far_12 : decode cX7_far 12 = .ok (.istore_n 2, 1) := by decide +kernel
theorem dX7_far_13 : decode cX7_far 13 = .ok (.iconst 0, 1) := by decide +kernel
theorem dX7_far_14 : decode cX7_far 14 = .ok (.istore_n 3, 1) := by decide +kernel
theorem dX7_far_15 : decode cX7_far 15 = .ok (.iload_n 3, 1) := by decide +kernel
theorem dX7_far_16 : decode cX7_far 16 = .ok (.iconst 4, 1) := by decide +kernel
theorem dX7_far_17 : decode cX7_far 17 = .ok (.if_icmp .ge 41, 3) := by decide +kernel
theorem dX7_far_20 : decode cX7_far 20 = .ok (.iload_n 2, 1) := by decide +kernel
theorem dX7_far_21 : decode cX7_far 21 = .ok (.aload_n 0, 1) := by decide +kernel
theorem dX7_far_22 : decode cX7_far 22 = .ok (.getfield 7, 3) := by decide +kernel
theorem dX7_far_25 : decode cX7_far 25 = .ok (.sipush 218, 3) := by decide +kernel
theorem dX7_far_28 : decode cX7_far 28 = .ok (.iload_n 3, 1) := by decide +kernel
theorem dX7_far_29 : decode cX7_far 29 = .ok (.iadd, 1) := by decide +kernel
theorem dX7_far_30 : decode cX7_far 30 = .ok (.iaload, 1) := by decide +kernel
theorem dX7_far_31 : decode cX7_far 31 = .ok (.ifCond .lt 18, 3) := by decide +kernel
theorem dX7_far_34 : decode cX7_far 34 = .ok (.iconst 1, 1) := by decide +kernel
theorem dX7_far_35 : decode cX7_far 35 = .ok (.aload_n 0, 1) := by decide +kernel
theorem dX7_far_36 : decode cX7_far 36 = .ok (.getfield 7, 3) := by decide +kernel
theorem dX7_far_39 : decode cX7_far 39 = .ok (.sipush 218, 3) := by decide +kernel
theorem dX7_far_42 : decode cX7_far 42 = .ok (.iload_n 3, 1) := by decide +kernel
theorem dX7_far_43 : decode cX7_far 43 = .ok (.iadd, 1) := by decide +kernel
theorem dX7_far_44 : decode cX7_far 44 = .ok (.iaload, 1) := by decide +kernel
theorem dX7_far_45 : decode cX7_far 45 = .ok (.ishl, 1) := by decide +kernel
theorem dX7_far_46 : decode cX7_far 46 = .ok (.goto 4, 3) := by decide +kernel
theorem dX7_far_49 : decode cX7_far 49 = .ok (.iconst 0, 1) := by decide +kernel
theorem dX7_far_50 : decode cX7_far 50 = .ok (.ior, 1) := by decide +kernel
theorem dX7_far_51 : decode cX7_far 51 = .ok (.istore_n 2, 1) := by decide +kernel
theorem dX7_far_52 : decode cX7_far 52 = .ok (.iinc 3 1, 3) := by decide +kernel
theorem dX7_far_55 : decode cX7_far 55 = .ok (.goto (-40), 3) := by decide +kernel
theorem dX7_far_58 : decode cX7_far 58 = .ok (.iconst 0, 1) := by decide +kernel
theorem dX7_far_59 : decode cX7_far 59 = .ok (.istore_n 3, 1) := by decide +kernel
theorem dX7_far_60 : decode cX7_far 60 = .ok (.iconst 1, 1) := by decide +kernel
theorem dX7_far_61 : decode cX7_far 61 = .ok (.istore 4, 2) := by decide +kernel
theorem dX7_far_63 : decode cX7_far 63 = .ok (.iload 4, 2) := by decide +kernel
theorem dX7_far_65 : decode cX7_far 65 = .ok (.ifCond .eq 111, 3) := by decide +kernel
theorem dX7_far_68 : decode cX7_far 68 = .ok (.iload_n 2, 1) := by decide +kernel
theorem dX7_far_69 : decode cX7_far 69 = .ok (.iload_n 1, 1) := by decide +kernel
theorem dX7_far_70 : decode cX7_far 70 = .ok (.ishr, 1) := by decide +kernel
theorem dX7_far_71 : decode cX7_far 71 = .ok (.iconst 1, 1) := by decide +kernel
theorem dX7_far_72 : decode cX7_far 72 = .ok (.iand, 1) := by decide +kernel
theorem dX7_far_73 : decode cX7_far 73 = .ok (.ifCond .ne 103, 3) := by decide +kernel
theorem dX7_far_76 : decode cX7_far 76 = .ok (.iload_n 2, 1) := by decide +kernel
theorem dX7_far_77 : decode cX7_far 77 = .ok (.istore 5, 2) := by decide +kernel
theorem dX7_far_79 : decode cX7_far 79 = .ok (.iconst 0, 1) := by decide +kernel
theorem dX7_far_80 : decode cX7_far 80 = .ok (.istore 6, 2) := by decide +kernel
theorem dX7_far_82 : decode cX7_far 82 = .ok (.iload 6, 2) := by decide +kernel
theorem dX7_far_84 : decode cX7_far 84 = .ok (.bipush 24, 2) := by decide +kernel
theorem dX7_far_86 : decode cX7_far 86 = .ok (.if_icmp .ge 68, 3) := by decide +kernel
theorem dX7_far_89 : decode cX7_far 89 = .ok (.iconst 0, 1) := by decide +kernel
theorem dX7_far_90 : decode cX7_far 90 = .ok (.istore 7, 2) := by decide +kernel
theorem dX7_far_92 : decode cX7_far 92 = .ok (.iload 7, 2) := by decide +kernel
theorem dX7_far_94 : decode cX7_far 94 = .ok (.iconst 3, 1) := by decide +kernel
theorem dX7_far_95 : decode cX7_far 95 = .ok (.if_icmp .ge 53, 3) := by decide +kernel
theorem dX7_far_98 : decode cX7_far 98 = .ok (.iload_n 2, 1) := by decide +kernel
theorem dX7_far_99 : decode cX7_far 99 = .ok (.iload 6, 2) := by decide +kernel
theorem dX7_far_101 : decode cX7_far 101 = .ok (.ishr, 1) := by decide +kernel
theorem dX7_far_102 : decode cX7_far 102 = .ok (.iconst 1, 1) := by decide +kernel
theorem dX7_far_103 : decode cX7_far 103 = .ok (.iand, 1) := by decide +kernel
theorem dX7_far_104 : decode cX7_far 104 = .ok (.iconst 1, 1) := by decide +kernel
theorem dX7_far_105 : decode cX7_far 105 = .ok (.if_icmp .ne 43, 3) := by decide +kernel
theorem dX7_far_108 : decode cX7_far 108 = .ok (.iload 5, 2) := by decide +kernel
theorem dX7_far_110 : decode cX7_far 110 = .ok (.aload_n 0, 1) := by decide +kernel
theorem dX7_far_111 : decode cX7_far 111 = .ok (.iload 6, 2) := by decide +kernel
theorem dX7_far_113 : decode cX7_far 113 = .ok (.iconst 1, 1) := by decide +kernel
theorem dX7_far_114 : decode cX7_far 114 = .ok (.iload 7, 2) := by decide +kernel
theorem dX7_far_116 : decode cX7_far 116 = .ok (.iadd, 1) := by decide +kernel
theorem dX7_far_117 : decode cX7_far 117 = .ok (.invokevirtual 43, 3) := by decide +kernel
theorem dX7_far_120 : decode cX7_far 120 = .ok (.ifCond .lt 18, 3) := by decide +kernel
theorem dX7_far_123 : decode cX7_far 123 = .ok (.iconst 1, 1) := by decide +kernel
theorem dX7_far_124 : decode cX7_far 124 = .ok (.aload_n 0, 1) := by decide +kernel
theorem dX7_far_125 : decode cX7_far 125 = .ok (.iload 6, 2) := by decide +kernel
theorem dX7_far_127 : decode cX7_far 127 = .ok (.iconst 1, 1) := by decide +kernel
theorem dX7_far_128 : decode cX7_far 128 = .ok (.iload 7, 2) := by decide +kernel
theorem dX7_far_130 : decode cX7_far 130 = .ok (.iadd, 1) := by decide +kernel
theorem dX7_far_131 : decode cX7_far 131 = .ok (.invokevirtual 43, 3) := by decide +kernel
theorem dX7_far_134 : decode cX7_far 134 = .ok (.ishl, 1) := by decide +kernel
theorem dX7_far_135 : decode cX7_far 135 = .ok (.goto 4, 3) := by decide +kernel
theorem dX7_far_138 : decode cX7_far 138 = .ok (.iconst 0, 1) := by decide +kernel
theorem dX7_far_139 : decode cX7_far 139 = .ok (.ior, 1) := by decide +kernel
theorem dX7_far_140 : decode cX7_far 140 = .ok (.istore 5, 2) := by decide +kernel
theorem dX7_far_142 : decode cX7_far 142 = .ok (.iinc 7 1, 3) := by decide +kernel
theorem dX7_far_145 : decode cX7_far 145 = .ok (.goto (-53), 3) := by decide +kernel
theorem dX7_far_148 : decode cX7_far 148 = .ok (.iinc 6 1, 3) := by decide +kernel
theorem dX7_far_151 : decode cX7_far 151 = .ok (.goto (-69), 3) := by decide +kernel
theorem dX7_far_154 : decode cX7_far 154 = .ok (.iload 5, 2) := by decide +kernel
theorem dX7_far_156 : decode cX7_far 156 = .ok (.iload_n 2, 1) := by decide +kernel
theorem dX7_far_157 : decode cX7_far 157 = .ok (.if_icmp .eq 7, 3) := by decide +kernel
theorem dX7_far_160 : decode cX7_far 160 = .ok (.iconst 1, 1) := by decide +kernel
theorem dX7_far_161 : decode cX7_far 161 = .ok (.goto 4, 3) := by decide +kernel
theorem dX7_far_164 : decode cX7_far 164 = .ok (.iconst 0, 1) := by decide +kernel
theorem dX7_far_165 : decode cX7_far 165 = .ok (.istore 4, 2) := by decide +kernel
theorem dX7_far_167 : decode cX7_far 167 = .ok (.iload 5, 2) := by decide +kernel
theorem dX7_far_169 : decode cX7_far 169 = .ok (.istore_n 2, 1) := by decide +kernel
theorem dX7_far_170 : decode cX7_far 170 = .ok (.iinc 3 1, 3) := by decide +kernel
theorem dX7_far_173 : decode cX7_far 173 = .ok (.goto (-110), 3) := by decide +kernel
theorem dX7_far_176 : decode cX7_far 176 = .ok (.iload_n 2, 1) := by decide +kernel
theorem dX7_far_177 : decode cX7_far 177 = .ok (.iload_n 1, 1) := by decide +kernel
theorem dX7_far_178 : decode cX7_far 178 = .ok (.ishr, 1) := by decide +kernel
theorem dX7_far_179 : decode cX7_far 179 = .ok (.iconst 1, 1) := by decide +kernel
theorem dX7_far_180 : decode cX7_far 180 = .ok (.iand, 1) := by decide +kernel
theorem dX7_far_181 : decode cX7_far 181 = .ok (.iconst 1, 1) := by decide +kernel
theorem dX7_far_182 : decode cX7_far 182 = .ok (.if_icmp .ne 7, 3) := by decide +kernel
theorem dX7_far_185 : decode cX7_far 185 = .ok (.iload_n 3, 1) := by decide +kernel
theorem dX7_far_186 : decode cX7_far 186 = .ok (.goto 5, 3) := by decide +kernel
theorem dX7_far_189 : decode cX7_far 189 = .ok (.bipush (-14), 2) := by decide +kernel
theorem dX7_far_191 : decode cX7_far 191 = .ok (.ireturn, 1) := by decide +kernel
theorem dX7_isAt_0 : decode cX7_isAt 0 = .ok (.aload_n 0, 1) := by decide +kernel
theorem dX7_isAt_1 : decode cX7_isAt 1 = .ok (.getfield 145, 3) := by decide +kernel
theorem dX7_isAt_4 : decode cX7_isAt 4 = .ok (.aload_n 0, 1) := by decide +kernel
theorem dX7_isAt_5 : decode cX7_isAt 5 = .ok (.getfield 132, 3) := by decide +kernel
theorem dX7_isAt_8 : decode cX7_isAt 8 = .ok (.if_icmp .ge 24, 3) := by decide +kernel
theorem dX7_isAt_11 : decode cX7_isAt 11 = .ok (.aload_n 0, 1) := by decide +kernel
theorem dX7_isAt_12 : decode cX7_isAt 12 = .ok (.getfield 25, 3) := by decide +kernel
theorem dX7_isAt_15 : decode cX7_isAt 15 = .ok (.aload_n 0, 1) := by decide +kernel
theorem dX7_isAt_16 : decode cX7_isAt 16 = .ok (.getfield 145, 3) := by decide +kernel
theorem dX7_isAt_19 : decode cX7_isAt 19 = .ok (.iaload, 1) := by decide +kernel
theorem dX7_isAt_20 : decode cX7_isAt 20 = .ok (.iload_n 1, 1) := by decide +kernel
theorem dX7_isAt_21 : decode cX7_isAt 21 = .ok (.iload_n 2, 1) := by decide +kernel
theorem dX7_isAt_22 : decode cX7_isAt 22 = .ok (.invokestatic 39, 3) := by decide +kernel
theorem dX7_isAt_25 : decode cX7_isAt 25 = .ok (.ifCond .eq 7, 3) := by decide +kernel
theorem dX7_isAt_28 : decode cX7_isAt 28 = .ok (.iconst 1, 1) := by decide +kernel
theorem dX7_isAt_29 : decode cX7_isAt 29 = .ok (.goto 4, 3) := by decide +kernel
theorem dX7_isAt_32 : decode cX7_isAt 32 = .ok (.iconst 0, 1) := by decide +kernel
theorem dX7_isAt_33 : decode cX7_isAt 33 = .ok (.ireturn, 1) := by decide +kernel
theorem dX7_number_0 : decode cX7_number 0 = .ok (.aload_n 0, 1) := by decide +kernel
theorem dX7_number_1 : decode cX7_number 1 = .ok (.getfield 145, 3) := by decide +kernel
theorem dX7_number_4 : decode cX7_number 4 = .ok (.istore_n 2, 1) := by decide +kernel
theorem dX7_number_5 : decode cX7_number 5 = .ok (.aload_n 0, 1) := by decide +kernel
theorem dX7_number_6 : decode cX7_number 6 = .ok (.getfield 28, 3) := by decide +kernel
theorem dX7_number_9 : decode cX7_number 9 = .ok (.iload_n 1, 1) := by decide +kernel
theorem dX7_number_10 : decode cX7_number 10 = .ok (.iconst 0, 1) := by decide +kernel
theorem dX7_number_11 : decode cX7_number 11 = .ok (.iastore, 1) := by decide +kernel
theorem dX7_number_12 : decode cX7_number 12 = .ok (.aload_n 0, 1) := by decide +kernel
theorem dX7_number_13 : decode cX7_number 13 = .ok (.bipush 48, 2) := by decide +kernel
theorem dX7_number_15 : decode cX7_number 15 = .ok (.bipush 57, 2) := by decide +kernel
theorem dX7_number_17 : decode cX7_number 17 = .ok (.invokevirtual 148, 3) := by decide +kernel
theorem dX7_number_20 : decode cX7_number 20 = .ok (.ifCond .eq 54, 3) := by decide +kernel
theorem dX7_number_23 : decode cX7_number 23 = .ok (.aload_n 0, 1) := by decide +kernel
theorem dX7_number_24 : decode cX7_number 24 = .ok (.getfield 145, 3) := by decide +kernel
theorem dX7_number_27 : decode cX7_number 27 = .ok (.iload_n 2, 1) := by decide +kernel
theorem dX7_number_28 : decode cX7_number 28 = .ok (.isub, 1) := by decide +kernel
theorem dX7_number_29 : decode cX7_number 29 = .ok (.iconst 3, 1) := by decide +kernel
theorem dX7_number_30 : decode cX7_number 30 = .ok (.if_icmp .ge 44, 3) := by decide +kernel
theorem dX7_number_33 : decode cX7_number 33 = .ok (.aload_n 0, 1) := by decide +kernel
theorem dX7_number_34 : decode cX7_number 34 = .ok (.getfield 28, 3) := by decide +kernel
theorem dX7_number_37 : decode cX7_number 37 = .ok (.iload_n 1, 1) := by decide +kernel
theorem dX7_number_38 : decode cX7_number 38 = .ok (.bipush 10, 2) := by decide +kernel
theorem dX7_number_40 : decode cX7_number 40 = .ok (.aload_n 0, 1) := by decide +kernel
theorem dX7_number_41 : decode cX7_number 41 = .ok (.getfield 28, 3) := by decide +kernel
theorem dX7_number_44 : decode cX7_number 44 = .ok (.iload_n 1, 1) := by decide +kernel
theorem dX7_number_45 : decode cX7_number 45 = .ok (.iaload, 1) := by decide +kernel
theorem dX7_number_46 : decode cX7_number 46 = .ok (.imul, 1) := by decide +kernel
theorem dX7_number_47 : decode cX7_number 47 = .ok (.aload_n 0, 1) := by decide +kernel
theorem dX7_number_48 : decode cX7_number 48 = .ok (.getfield 25, 3) := by decide +kernel
theorem dX7_number_51 : decode cX7_number 51 = .ok (.aload_n 0, 1) := by decide +kernel
theorem dX7_number_52 : decode cX7_number 52 = .ok (.getfield 145, 3) := by decide +kernel
theorem dX7_number_55 : decode cX7_number 55 = .ok (.iaload, 1) := by decide +kernel
theorem dX7_number_56 : decode cX7_number 56 = .ok (.iadd, 1) := by decide +kernel
theorem dX7_number_57 : decode cX7_number 57 = .ok (.bipush 48, 2) := by decide +kernel
theorem dX7_number_59 : decode cX7_number 59 = .ok (.isub, 1) := by decide +kernel
theorem dX7_number_60 : decode cX7_number 60 = .ok (.iastore, 1) := by decide +kernel
theorem dX7_number_61 : decode cX7_number 61 = .ok (.aload_n 0, 1) := by decide +kernel
theorem dX7_number_62 : decode cX7_number 62 = .ok (.dup, 1) := by decide +kernel
theorem dX7_number_63 : decode cX7_number 63 = .ok (.getfield 145, 3) := by decide +kernel
theorem dX7_number_66 : decode cX7_number 66 = .ok (.iconst 1, 1) := by decide +kernel
theorem dX7_number_67 : decode cX7_number 67 = .ok (.iadd, 1) := by decide +kernel
theorem dX7_number_68 : decode cX7_number 68 = .ok (.putfield 145, 3) := by decide +kernel
theorem dX7_number_71 : decode cX7_number 71 = .ok (.goto (-59), 3) := by decide +kernel
theorem dX7_number_74 : decode cX7_number 74 = .ok (.aload_n 0, 1) := by decide +kernel
theorem dX7_number_75 : decode cX7_number 75 = .ok (.getfield 145, 3) := by decide +kernel
theorem dX7_number_78 : decode cX7_number 78 = .ok (.iload_n 2, 1) := by decide +kernel
theorem dX7_number_79 : decode cX7_number 79 = .ok (.if_icmp .le 7, 3) := by decide +kernel
theorem dX7_number_82 : decode cX7_number 82 = .ok (.iconst 1, 1) := by decide +kernel
theorem dX7_number_83 : decode cX7_number 83 = .ok (.goto 4, 3) := by decide +kernel
theorem dX7_number_86 : decode cX7_number 86 = .ok (.iconst 0, 1) := by decide +kernel
theorem dX7_number_87 : decode cX7_number 87 = .ok (.ireturn, 1) := by decide +kernel
theorem dX7_sign_0 : decode cX7_sign 0 = .ok (.aload_n 0, 1) := by decide +kernel
theorem dX7_sign_1 : decode cX7_sign 1 = .ok (.iload_n 1, 1) := by decide +kernel
theorem dX7_sign_2 : decode cX7_sign 2 = .ok (.iload_n 1, 1) := by decide +kernel
theorem dX7_sign_3 : decode cX7_sign 3 = .ok (.invokevirtual 148, 3) := by decide +kernel
theorem dX7_sign_6 : decode cX7_sign 6 = .ok (.istore_n 2, 1) := by decide +kernel
theorem dX7_sign_7 : decode cX7_sign 7 = .ok (.aload_n 0, 1) := by decide +kernel
theorem dX7_sign_8 : decode cX7_sign 8 = .ok (.dup, 1) := by decide +kernel
theorem dX7_sign_9 : decode cX7_sign 9 = .ok (.getfield 145, 3) := by decide +kernel
theorem dX7_sign_12 : decode cX7_sign 12 = .ok (.iload_n 2, 1) := by decide +kernel
theorem dX7_sign_13 : decode cX7_sign 13 = .ok (.ifCond .eq 7, 3) := by decide +kernel
theorem dX7_sign_16 : decode cX7_sign 16 = .ok (.iconst 1, 1) := by decide +kernel
theorem dX7_sign_17 : decode cX7_sign 17 = .ok (.goto 4, 3) := by decide +kernel
theorem dX7_sign_20 : decode cX7_sign 20 = .ok (.iconst 0, 1) := by decide +kernel
theorem dX7_sign_21 : decode cX7_sign 21 = .ok (.iadd, 1) := by decide +kernel
theorem dX7_sign_22 : decode cX7_sign 22 = .ok (.putfield 145, 3) := by decide +kernel
theorem dX7_sign_25 : decode cX7_sign 25 = .ok (.iload_n 2, 1) := by decide +kernel
theorem dX7_sign_26 : decode cX7_sign 26 = .ok (.ireturn, 1) := by decide +kernel
theorem dX7_target_0 : decode cX7_target 0 = .ok (.aload_n 0, 1) := by decide +kernel
theorem dX7_target_1 : decode cX7_target 1 = .ok (.bipush 45, 2) := by decide +kernel
theorem dX7_target_3 : decode cX7_target 3 = .ok (.invokevirtual 152, 3) := by decide +kernel
theorem dX7_target_6 : decode cX7_target 6 = .ok (.ifCond .eq 12, 3) := by decide +kernel
theorem dX7_target_9 : decode cX7_target 9 = .ok (.aload_n 0, 1) := by decide +kernel
theorem dX7_target_10 : decode cX7_target 10 = .ok (.getfield 28, 3) := by decide +kernel
theorem dX7_target_13 : decode cX7_target 13 = .ok (.iload_n 1, 1) := by decide +kernel
theorem dX7_target_14 : decode cX7_target 14 = .ok (.iconst (-1), 1) := by decide +kernel
theorem dX7_target_15 : decode cX7_target 15 = .ok (.iastore, 1) := by decide +kernel
theorem dX7_target_16 : decode cX7_target 16 = .ok (.iconst 1, 1) := by decide +kernel
theorem dX7_target_17 : decode cX7_target 17 = .ok (.ireturn, 1) := by decide +kernel
theorem dX7_target_18 : decode cX7_target 18 = .ok (.aload_n 0, 1) := by decide +kernel
theorem dX7_target_19 : decode cX7_target 19 = .ok (.iload_n 1, 1) := by decide +kernel
theorem dX7_target_20 : decode cX7_target 20 = .ok (.invokevirtual 155, 3) := by decide +kernel
theorem dX7_target_23 : decode cX7_target 23 = .ok (.ireturn, 1) := by decide +kernel
theorem dX7_reads_0 : decode cX7_reads 0 = .ok (.aload_n 0, 1) := by decide +kernel
theorem dX7_reads_1 : decode cX7_reads 1 = .ok (.aload_n 0, 1) := by decide +kernel
theorem dX7_reads_2 : decode cX7_reads 2 = .ok (.getfield 25, 3) := by decide +kernel
theorem dX7_reads_5 : decode cX7_reads 5 = .ok (.aload_n 0, 1) := by decide +kernel
theorem dX7_reads_6 : decode cX7_reads 6 = .ok (.getfield 145, 3) := by decide +kernel
theorem dX7_reads_9 : decode cX7_reads 9 = .ok (.iaload, 1) := by decide +kernel
theorem dX7_reads_10 : decode cX7_reads 10 = .ok (.putfield 158, 3) := by decide +kernel
theorem dX7_reads_13 : decode cX7_reads 13 = .ok (.aload_n 0, 1) := by decide +kernel
theorem dX7_reads_14 : decode cX7_reads 14 = .ok (.dup, 1) := by decide +kernel
theorem dX7_reads_15 : decode cX7_reads 15 = .ok (.getfield 145, 3) := by decide +kernel
theorem dX7_reads_18 : decode cX7_reads 18 = .ok (.iconst 1, 1) := by decide +kernel
theorem dX7_reads_19 : decode cX7_reads 19 = .ok (.iadd, 1) := by decide +kernel
theorem dX7_reads_20 : decode cX7_reads 20 = .ok (.putfield 145, 3) := by decide +kernel
theorem dX7_reads_23 : decode cX7_reads 23 = .ok (.aload_n 0, 1) := by decide +kernel
theorem dX7_reads_24 : decode cX7_reads 24 = .ok (.getfield 158, 3) := by decide +kernel
theorem dX7_reads_27 : decode cX7_reads 27 = .ok (.lookupswitch 176 #[(98, 49), (102, 119), (110, 56), (114, 79), (115, 56)], 49) := by decide +kernel
theorem dX7_reads_76 : decode cX7_reads 76 = .ok (.aload_n 0, 1) := by decide +kernel
theorem dX7_reads_77 : decode cX7_reads 77 = .ok (.bipush 59, 2) := by decide +kernel
theorem dX7_reads_79 : decode cX7_reads 79 = .ok (.invokevirtual 152, 3) := by decide +kernel
theorem dX7_reads_82 : decode cX7_reads 82 = .ok (.ireturn, 1) := by decide +kernel
theorem dX7_reads_83 : decode cX7_reads 83 = .ok (.aload_n 0, 1) := by decide +kernel
theorem dX7_reads_84 : decode cX7_reads 84 = .ok (.iconst 0, 1) := by decide +kernel
theorem dX7_reads_85 : decode cX7_reads 85 = .ok (.invokevirtual 155, 3) := by decide +kernel
theorem dX7_reads_88 : decode cX7_reads 88 = .ok (.ifCond .eq 16, 3) := by decide +kernel
theorem dX7_reads_91 : decode cX7_reads 91 = .ok (.aload_n 0, 1) := by decide +kernel
theorem dX7_reads_92 : decode cX7_reads 92 = .ok (.bipush 59, 2) := by decide +kernel
theorem dX7_reads_94 : decode cX7_reads 94 = .ok (.invokevirtual 152, 3) := by decide +kernel
theorem dX7_reads_97 : decode cX7_reads 97 = .ok (.ifCond .eq 7, 3) := by decide +kernel
theorem dX7_reads_100 : decode cX7_reads 100 = .ok (.iconst 1, 1) := by decide +kernel
theorem dX7_reads_101 : decode cX7_reads 101 = .ok (.goto 4, 3) := by decide +kernel
theorem dX7_reads_104 : decode cX7_reads 104 = .ok (.iconst 0, 1) := by decide +kernel
theorem dX7_reads_105 : decode cX7_reads 105 = .ok (.ireturn, 1) := by decide +kernel
theorem dX7_reads_106 : decode cX7_reads 106 = .ok (.aload_n 0, 1) := by decide +kernel
theorem dX7_reads_107 : decode cX7_reads 107 = .ok (.iconst 0, 1) := by decide +kernel
theorem dX7_reads_108 : decode cX7_reads 108 = .ok (.invokevirtual 155, 3) := by decide +kernel
theorem dX7_reads_111 : decode cX7_reads 111 = .ok (.ifCond .eq 33, 3) := by decide +kernel
theorem dX7_reads_114 : decode cX7_reads 114 = .ok (.aload_n 0, 1) := by decide +kernel
theorem dX7_reads_115 : decode cX7_reads 115 = .ok (.bipush 44, 2) := by decide +kernel
theorem dX7_reads_117 : decode cX7_reads 117 = .ok (.invokevirtual 152, 3) := by decide +kernel
theorem dX7_reads_120 : decode cX7_reads 120 = .ok (.ifCond .eq 24, 3) := by decide +kernel
theorem dX7_reads_123 : decode cX7_reads 123 = .ok (.aload_n 0, 1) := by decide +kernel
theorem dX7_reads_124 : decode cX7_reads 124 = .ok (.iconst 1, 1) := by decide +kernel
theorem dX7_reads_125 : decode cX7_reads 125 = .ok (.invokevirtual 161, 3) := by decide +kernel
theorem dX7_reads_128 : decode cX7_reads 128 = .ok (.ifCond .eq 16, 3) := by decide +kernel
theorem dX7_reads_131 : decode cX7_reads 131 = .ok (.aload_n 0, 1) := by decide +kernel
theorem dX7_reads_132 : decode cX7_reads 132 = .ok (.bipush 59, 2) := by decide +kernel
theorem dX7_reads_134 : decode cX7_reads 134 = .ok (.invokevirtual 152, 3) := by decide +kernel
theorem dX7_reads_137 : decode cX7_reads 137 = .ok (.ifCond .eq 7, 3) := by decide +kernel
theorem dX7_reads_140 : decode cX7_reads 140 = .ok (.iconst 1, 1) := by decide +kernel
theorem dX7_reads_141 : decode cX7_reads 141 = .ok (.goto 4, 3) := by decide +kernel
theorem dX7_reads_144 : decode cX7_reads 144 = .ok (.iconst 0, 1) := by decide +kernel
theorem dX7_reads_145 : decode cX7_reads 145 = .ok (.ireturn, 1) := by decide +kernel
theorem dX7_reads_146 : decode cX7_reads 146 = .ok (.aload_n 0, 1) := by decide +kernel
theorem dX7_reads_147 : decode cX7_reads 147 = .ok (.iconst 0, 1) := by decide +kernel
theorem dX7_reads_148 : decode cX7_reads 148 = .ok (.invokevirtual 155, 3) := by decide +kernel
theorem dX7_reads_151 : decode cX7_reads 151 = .ok (.ifCond .eq 50, 3) := by decide +kernel
theorem dX7_reads_154 : decode cX7_reads 154 = .ok (.aload_n 0, 1) := by decide +kernel
theorem dX7_reads_155 : decode cX7_reads 155 = .ok (.bipush 44, 2) := by decide +kernel
theorem dX7_reads_157 : decode cX7_reads 157 = .ok (.invokevirtual 152, 3) := by decide +kernel
theorem dX7_reads_160 : decode cX7_reads 160 = .ok (.ifCond .eq 41, 3) := by decide +kernel
theorem dX7_reads_163 : decode cX7_reads 163 = .ok (.aload_n 0, 1) := by decide +kernel
theorem dX7_reads_164 : decode cX7_reads 164 = .ok (.iconst 1, 1) := by decide +kernel
theorem dX7_reads_165 : decode cX7_reads 165 = .ok (.invokevirtual 155, 3) := by decide +kernel
theorem dX7_reads_168 : decode cX7_reads 168 = .ok (.ifCond .eq 33, 3) := by decide +kernel
theorem dX7_reads_171 : decode cX7_reads 171 = .ok (.aload_n 0, 1) := by decide +kernel
theorem dX7_reads_172 : decode cX7_reads 172 = .ok (.bipush 44, 2) := by decide +kernel
theorem dX7_reads_174 : decode cX7_reads 174 = .ok (.invokevirtual 152, 3) := by decide +kernel
theorem dX7_reads_177 : decode cX7_reads 177 = .ok (.ifCond .eq 24, 3) := by decide +kernel
theorem dX7_reads_180 : decode cX7_reads 180 = .ok (.aload_n 0, 1) := by decide +kernel
theorem dX7_reads_181 : decode cX7_reads 181 = .ok (.iconst 2, 1) := by decide +kernel
theorem dX7_reads_182 : decode cX7_reads 182 = .ok (.invokevirtual 161, 3) := by decide +kernel
theorem dX7_reads_185 : decode cX7_reads 185 = .ok (.ifCond .eq 16, 3) := by decide +kernel
theorem dX7_reads_188 : decode cX7_reads 188 = .ok (.aload_n 0, 1) := by decide +kernel
theorem dX7_reads_189 : decode cX7_reads 189 = .ok (.bipush 59, 2) := by decide +kernel
theorem dX7_reads_191 : decode cX7_reads 191 = .ok (.invokevirtual 152, 3) := by decide +kernel
theorem dX7_reads_194 : decode cX7_reads 194 = .ok (.ifCond .eq 7, 3) := by decide +kernel
theorem dX7_reads_197 : decode cX7_reads 197 = .ok (.iconst 1, 1) := by decide +kernel
theorem dX7_reads_198 : decode cX7_reads 198 = .ok (.goto 4, 3) := by decide +kernel
theorem dX7_reads_201 : decode cX7_reads 201 = .ok (.iconst 0, 1) := by decide +kernel
theorem dX7_reads_202 : decode cX7_reads 202 = .ok (.ireturn, 1) := by decide +kernel
theorem dX7_reads_203 : decode cX7_reads 203 = .ok (.iconst 0, 1) := by decide +kernel
theorem dX7_reads_204 : decode cX7_reads 204 = .ok (.ireturn, 1) := by decide +kernel
theorem dX7_plays_0 : decode cX7_plays 0 = .ok (.aload_n 0, 1) := by decide +kernel
theorem dX7_plays_1 : decode cX7_plays 1 = .ok (.iconst 1, 1) := by decide +kernel
theorem dX7_plays_2 : decode cX7_plays 2 = .ok (.putfield 31, 3) := by decide +kernel
theorem dX7_plays_5 : decode cX7_plays 5 = .ok (.aload_n 0, 1) := by decide +kernel
theorem dX7_plays_6 : decode cX7_plays 6 = .ok (.iconst 0, 1) := by decide +kernel
theorem dX7_plays_7 : decode cX7_plays 7 = .ok (.putfield 145, 3) := by decide +kernel
theorem dX7_plays_10 : decode cX7_plays 10 = .ok (.aload_n 0, 1) := by decide +kernel
theorem dX7_plays_11 : decode cX7_plays 11 = .ok (.iconst 0, 1) := by decide +kernel
theorem dX7_plays_12 : decode cX7_plays 12 = .ok (.putfield 180, 3) := by decide +kernel
theorem dX7_plays_15 : decode cX7_plays 15 = .ok (.iconst 0, 1) := by decide +kernel
theorem dX7_plays_16 : decode cX7_plays 16 = .ok (.istore_n 1, 1) := by decide +kernel
theorem dX7_plays_17 : decode cX7_plays 17 = .ok (.iconst 1, 1) := by decide +kernel
theorem dX7_plays_18 : decode cX7_plays 18 = .ok (.istore_n 2, 1) := by decide +kernel
theorem dX7_plays_19 : decode cX7_plays 19 = .ok (.aload_n 0, 1) := by decide +kernel
theorem dX7_plays_20 : decode cX7_plays 20 = .ok (.getfield 145, 3) := by decide +kernel
theorem dX7_plays_23 : decode cX7_plays 23 = .ok (.aload_n 0, 1) := by decide +kernel
theorem dX7_plays_24 : decode cX7_plays 24 = .ok (.getfield 132, 3) := by decide +kernel
theorem dX7_plays_27 : decode cX7_plays 27 = .ok (.if_icmp .ge 64, 3) := by decide +kernel
theorem dX7_plays_30 : decode cX7_plays 30 = .ok (.iload_n 2, 1) := by decide +kernel
theorem dX7_plays_31 : decode cX7_plays 31 = .ok (.ifCond .eq 60, 3) := by decide +kernel
theorem dX7_plays_34 : decode cX7_plays 34 = .ok (.aload_n 0, 1) := by decide +kernel
theorem dX7_plays_35 : decode cX7_plays 35 = .ok (.getfield 145, 3) := by decide +kernel
theorem dX7_plays_38 : decode cX7_plays 38 = .ok (.istore_n 1, 1) := by decide +kernel
theorem dX7_plays_39 : decode cX7_plays 39 = .ok (.aload_n 0, 1) := by decide +kernel
theorem dX7_plays_40 : decode cX7_plays 40 = .ok (.invokevirtual 183, 3) := by decide +kernel
theorem dX7_plays_43 : decode cX7_plays 43 = .ok (.istore_n 3, 1) := by decide +kernel
theorem dX7_plays_44 : decode cX7_plays 44 = .ok (.aload_n 0, 1) := by decide +kernel
theorem dX7_plays_45 : decode cX7_plays 45 = .ok (.iload_n 3, 1) := by decide +kernel
theorem dX7_plays_46 : decode cX7_plays 46 = .ok (.ifCond .eq 10, 3) := by decide +kernel
theorem dX7_plays_49 : decode cX7_plays 49 = .ok (.aload_n 0, 1) := by decide +kernel
theorem dX7_plays_50 : decode cX7_plays 50 = .ok (.invokevirtual 186, 3) := by decide +kernel
theorem dX7_plays_53 : decode cX7_plays 53 = .ok (.goto 4, 3) := by decide +kernel
theorem dX7_plays_56 : decode cX7_plays 56 = .ok (.iconst 0, 1) := by decide +kernel
theorem dX7_plays_57 : decode cX7_plays 57 = .ok (.putfield 189, 3) := by decide +kernel
theorem dX7_plays_60 : decode cX7_plays 60 = .ok (.iload_n 3, 1) := by decide +kernel
theorem dX7_plays_61 : decode cX7_plays 61 = .ok (.ifCond .eq 15, 3) := by decide +kernel
theorem dX7_plays_64 : decode cX7_plays 64 = .ok (.aload_n 0, 1) := by decide +kernel
theorem dX7_plays_65 : decode cX7_plays 65 = .ok (.getfield 189, 3) := by decide +kernel
theorem dX7_plays_68 : decode cX7_plays 68 = .ok (.iconst (-1), 1) := by decide +kernel
theorem dX7_plays_69 : decode cX7_plays 69 = .ok (.if_icmp .lt 7, 3) := by decide +kernel
theorem dX7_plays_72 : decode cX7_plays 72 = .ok (.iconst 1, 1) := by decide +kernel
theorem dX7_plays_73 : decode cX7_plays 73 = .ok (.goto 4, 3) := by decide +kernel
theorem dX7_plays_76 : decode cX7_plays 76 = .ok (.iconst 0, 1) := by decide +kernel
theorem dX7_plays_77 : decode cX7_plays 77 = .ok (.istore_n 2, 1) := by decide +kernel
theorem dX7_plays_78 : decode cX7_plays 78 = .ok (.aload_n 0, 1) := by decide +kernel
theorem dX7_plays_79 : decode cX7_plays 79 = .ok (.dup, 1) := by decide +kernel
theorem dX7_plays_80 : decode cX7_plays 80 = .ok (.getfield 180, 3) := by decide +kernel
theorem dX7_plays_83 : decode cX7_plays 83 = .ok (.iconst 1, 1) := by decide +kernel
theorem dX7_plays_84 : decode cX7_plays 84 = .ok (.iadd, 1) := by decide +kernel
theorem dX7_plays_85 : decode cX7_plays 85 = .ok (.putfield 180, 3) := by decide +kernel
theorem dX7_plays_88 : decode cX7_plays 88 = .ok (.goto (-69), 3) := by decide +kernel
theorem dX7_plays_91 : decode cX7_plays 91 = .ok (.aload_n 0, 1) := by decide +kernel
theorem dX7_plays_92 : decode cX7_plays 92 = .ok (.iconst 0, 1) := by decide +kernel
theorem dX7_plays_93 : decode cX7_plays 93 = .ok (.putfield 31, 3) := by decide +kernel
theorem dX7_plays_96 : decode cX7_plays 96 = .ok (.iload_n 2, 1) := by decide +kernel
theorem dX7_plays_97 : decode cX7_plays 97 = .ok (.ifCond .eq 8, 3) := by decide +kernel
theorem dX7_plays_100 : decode cX7_plays 100 = .ok (.bipush (-14), 2) := by decide +kernel
theorem dX7_plays_102 : decode cX7_plays 102 = .ok (.goto 4, 3) := by decide +kernel
theorem dX7_plays_105 : decode cX7_plays 105 = .ok (.iload_n 1, 1) := by decide +kernel
theorem dX7_plays_106 : decode cX7_plays 106 = .ok (.ireturn, 1) := by decide +kernel
theorem dX7_fault_0 : decode cX7_fault 0 = .ok (.iload_n 1, 1) := by decide +kernel
theorem dX7_fault_1 : decode cX7_fault 1 = .ok (.iconst 0, 1) := by decide +kernel
theorem dX7_fault_2 : decode cX7_fault 2 = .ok (.iconst 2, 1) := by decide +kernel
theorem dX7_fault_3 : decode cX7_fault 3 = .ok (.invokestatic 39, 3) := by decide +kernel
theorem dX7_fault_6 : decode cX7_fault 6 = .ok (.ifCond .ne 6, 3) := by decide +kernel
theorem dX7_fault_9 : decode cX7_fault 9 = .ok (.bipush (-11), 2) := by decide +kernel
theorem dX7_fault_11 : decode cX7_fault 11 = .ok (.ireturn, 1) := by decide +kernel
theorem dX7_fault_12 : decode cX7_fault 12 = .ok (.aload_n 0, 1) := by decide +kernel
theorem dX7_fault_13 : decode cX7_fault 13 = .ok (.getfield 7, 3) := by decide +kernel
theorem dX7_fault_16 : decode cX7_fault 16 = .ok (.aload_n 0, 1) := by decide +kernel
theorem dX7_fault_17 : decode cX7_fault 17 = .ok (.getfield 16, 3) := by decide +kernel
theorem dX7_fault_20 : decode cX7_fault 20 = .ok (.invokestatic 138, 3) := by decide +kernel
theorem dX7_fault_23 : decode cX7_fault 23 = .ok (.aload_n 0, 1) := by decide +kernel
theorem dX7_fault_24 : decode cX7_fault 24 = .ok (.invokevirtual 192, 3) := by decide +kernel
theorem dX7_fault_27 : decode cX7_fault 27 = .ok (.istore_n 2, 1) := by decide +kernel
theorem dX7_fault_28 : decode cX7_fault 28 = .ok (.aload_n 0, 1) := by decide +kernel
theorem dX7_fault_29 : decode cX7_fault 29 = .ok (.getfield 16, 3) := by decide +kernel
theorem dX7_fault_32 : decode cX7_fault 32 = .ok (.aload_n 0, 1) := by decide +kernel
theorem dX7_fault_33 : decode cX7_fault 33 = .ok (.getfield 7, 3) := by decide +kernel
theorem dX7_fault_36 : decode cX7_fault 36 = .ok (.invokestatic 138, 3) := by decide +kernel
theorem dX7_fault_39 : decode cX7_fault 39 = .ok (.iload_n 2, 1) := by decide +kernel
theorem dX7_fault_40 : decode cX7_fault 40 = .ok (.bipush (-14), 2) := by decide +kernel
theorem dX7_fault_42 : decode cX7_fault 42 = .ok (.if_icmp .eq 7, 3) := by decide +kernel
theorem dX7_fault_45 : decode cX7_fault 45 = .ok (.iload_n 1, 1) := by decide +kernel
theorem dX7_fault_46 : decode cX7_fault 46 = .ok (.ifCond .ne 7, 3) := by decide +kernel
theorem dX7_fault_49 : decode cX7_fault 49 = .ok (.iload_n 2, 1) := by decide +kernel
theorem dX7_fault_50 : decode cX7_fault 50 = .ok (.goto 39, 3) := by decide +kernel
theorem dX7_fault_53 : decode cX7_fault 53 = .ok (.iload_n 1, 1) := by decide +kernel
theorem dX7_fault_54 : decode cX7_fault 54 = .ok (.iconst 1, 1) := by decide +kernel
theorem dX7_fault_55 : decode cX7_fault 55 = .ok (.if_icmp .ne 18, 3) := by decide +kernel
theorem dX7_fault_58 : decode cX7_fault 58 = .ok (.aload_n 0, 1) := by decide +kernel
theorem dX7_fault_59 : decode cX7_fault 59 = .ok (.getfield 189, 3) := by decide +kernel
theorem dX7_fault_62 : decode cX7_fault 62 = .ok (.ifCond .ne 7, 3) := by decide +kernel
theorem dX7_fault_65 : decode cX7_fault 65 = .ok (.iconst 1, 1) := by decide +kernel
theorem dX7_fault_66 : decode cX7_fault 66 = .ok (.goto 23, 3) := by decide +kernel
theorem dX7_fault_69 : decode cX7_fault 69 = .ok (.iconst 2, 1) := by decide +kernel
theorem dX7_fault_70 : decode cX7_fault 70 = .ok (.goto 19, 3) := by decide +kernel
theorem dX7_fault_73 : decode cX7_fault 73 = .ok (.aload_n 0, 1) := by decide +kernel
theorem dX7_fault_74 : decode cX7_fault 74 = .ok (.getfield 189, 3) := by decide +kernel
theorem dX7_fault_77 : decode cX7_fault 77 = .ok (.ifCond .ne 8, 3) := by decide +kernel
theorem dX7_fault_80 : decode cX7_fault 80 = .ok (.bipush (-14), 2) := by decide +kernel
theorem dX7_fault_82 : decode cX7_fault 82 = .ok (.goto 7, 3) := by decide +kernel
theorem dX7_fault_85 : decode cX7_fault 85 = .ok (.aload_n 0, 1) := by decide +kernel
theorem dX7_fault_86 : decode cX7_fault 86 = .ok (.getfield 189, 3) := by decide +kernel
theorem dX7_fault_89 : decode cX7_fault 89 = .ok (.ireturn, 1) := by decide +kernel
theorem dX7_finish_0 : decode cX7_finish 0 = .ok (.iload_n 1, 1) := by decide +kernel
theorem dX7_finish_1 : decode cX7_finish 1 = .ok (.iconst (-1), 1) := by decide +kernel
theorem dX7_finish_2 : decode cX7_finish 2 = .ok (.if_icmp .eq 13, 3) := by decide +kernel
theorem dX7_finish_5 : decode cX7_finish 5 = .ok (.iload_n 1, 1) := by decide +kernel
theorem dX7_finish_6 : decode cX7_finish 6 = .ok (.invokestatic 74, 3) := by decide +kernel
theorem dX7_finish_9 : decode cX7_finish 9 = .ok (.ifCond .ne 6, 3) := by decide +kernel
theorem dX7_finish_12 : decode cX7_finish 12 = .ok (.bipush (-11), 2) := by decide +kernel
theorem dX7_finish_14 : decode cX7_finish 14 = .ok (.ireturn, 1) := by decide +kernel
theorem dX7_finish_15 : decode cX7_finish 15 = .ok (.aload_n 0, 1) := by decide +kernel
theorem dX7_finish_16 : decode cX7_finish 16 = .ok (.getfield 7, 3) := by decide +kernel
theorem dX7_finish_19 : decode cX7_finish 19 = .ok (.sipush 193, 3) := by decide +kernel
theorem dX7_finish_22 : decode cX7_finish 22 = .ok (.iaload, 1) := by decide +kernel
theorem dX7_finish_23 : decode cX7_finish 23 = .ok (.ifCond .ne 6, 3) := by decide +kernel
theorem dX7_finish_26 : decode cX7_finish 26 = .ok (.bipush (-12), 2) := by decide +kernel
theorem dX7_finish_28 : decode cX7_finish 28 = .ok (.ireturn, 1) := by decide +kernel
theorem dX7_finish_29 : decode cX7_finish 29 = .ok (.aload_n 0, 1) := by decide +kernel
theorem dX7_finish_30 : decode cX7_finish 30 = .ok (.invokevirtual 81, 3) := by decide +kernel
theorem dX7_finish_33 : decode cX7_finish 33 = .ok (.aload_n 0, 1) := by decide +kernel
theorem dX7_finish_34 : decode cX7_finish 34 = .ok (.sipush 193, 3) := by decide +kernel
theorem dX7_finish_37 : decode cX7_finish 37 = .ok (.invokevirtual 96, 3) := by decide +kernel
theorem dX7_finish_40 : decode cX7_finish 40 = .ok (.istore_n 2, 1) := by decide +kernel
theorem dX7_finish_41 : decode cX7_finish 41 = .ok (.iload_n 1, 1) := by decide +kernel
theorem dX7_finish_42 : decode cX7_finish 42 = .ok (.ifCond .ge 7, 3) := by decide +kernel
theorem dX7_finish_45 : decode cX7_finish 45 = .ok (.iconst (-1), 1) := by decide +kernel
theorem dX7_finish_46 : decode cX7_finish 46 = .ok (.goto 9, 3) := by decide +kernel
theorem dX7_finish_49 : decode cX7_finish 49 = .ok (.aload_n 0, 1) := by decide +kernel
theorem dX7_finish_50 : decode cX7_finish 50 = .ok (.iload_n 1, 1) := by decide +kernel
theorem dX7_finish_51 : decode cX7_finish 51 = .ok (.iload_n 2, 1) := by decide +kernel
theorem dX7_finish_52 : decode cX7_finish 52 = .ok (.invokevirtual 84, 3) := by decide +kernel
theorem dX7_finish_55 : decode cX7_finish 55 = .ok (.istore_n 3, 1) := by decide +kernel
theorem dX7_finish_56 : decode cX7_finish 56 = .ok (.aload_n 0, 1) := by decide +kernel
theorem dX7_finish_57 : decode cX7_finish 57 = .ok (.invokevirtual 62, 3) := by decide +kernel
theorem dX7_finish_60 : decode cX7_finish 60 = .ok (.ifCond .eq 14, 3) := by decide +kernel
theorem dX7_finish_63 : decode cX7_finish 63 = .ok (.iload_n 3, 1) := by decide +kernel
theorem dX7_finish_64 : decode cX7_finish 64 = .ok (.bipush 24, 2) := by decide +kernel
theorem dX7_finish_66 : decode cX7_finish 66 = .ok (.if_icmp .ge 8, 3) := by decide +kernel
theorem dX7_finish_69 : decode cX7_finish 69 = .ok (.aload_n 0, 1) := by decide +kernel
theorem dX7_finish_70 : decode cX7_finish 70 = .ok (.iload_n 2, 1) := by decide +kernel
theorem dX7_finish_71 : decode cX7_finish 71 = .ok (.invokevirtual 66, 3) := by decide +kernel
theorem dX7_finish_74 : decode cX7_finish 74 = .ok (.aload_n 0, 1) := by decide +kernel
theorem dX7_finish_75 : decode cX7_finish 75 = .ok (.getfield 7, 3) := by decide +kernel
theorem dX7_finish_78 : decode cX7_finish 78 = .ok (.sipush 231, 3) := by decide +kernel
theorem dX7_finish_81 : decode cX7_finish 81 = .ok (.dup2, 1) := by decide +kernel
theorem dX7_finish_82 : decode cX7_finish 82 = .ok (.iaload, 1) := by decide +kernel
theorem dX7_finish_83 : decode cX7_finish 83 = .ok (.iconst 1, 1) := by decide +kernel
theorem dX7_finish_84 : decode cX7_finish 84 = .ok (.iadd, 1) := by decide +kernel
theorem dX7_finish_85 : decode cX7_finish 85 = .ok (.iastore, 1) := by decide +kernel
theorem dX7_finish_86 : decode cX7_finish 86 = .ok (.iload_n 2, 1) := by decide +kernel
theorem dX7_finish_87 : decode cX7_finish 87 = .ok (.ireturn, 1) := by decide +kernel
theorem dX7_grey_0 : decode cX7_grey 0 = .ok (.iload_n 1, 1) := by decide +kernel
theorem dX7_grey_1 : decode cX7_grey 1 = .ok (.ifCond .ge 8, 3) := by decide +kernel
theorem dX7_grey_4 : decode cX7_grey 4 = .ok (.bipush (-11), 2) := by decide +kernel
theorem dX7_grey_6 : decode cX7_grey 6 = .ok (.goto 30, 3) := by decide +kernel
theorem dX7_grey_9 : decode cX7_grey 9 = .ok (.iload_n 1, 1) := by decide +kernel
theorem dX7_grey_10 : decode cX7_grey 10 = .ok (.aload_n 0, 1) := by decide +kernel
theorem dX7_grey_11 : decode cX7_grey 11 = .ok (.getfield 7, 3) := by decide +kernel
theorem dX7_grey_14 : decode cX7_grey 14 = .ok (.sipush 168, 3) := by decide +kernel
theorem dX7_grey_17 : decode cX7_grey 17 = .ok (.iaload, 1) := by decide +kernel
theorem dX7_grey_18 : decode cX7_grey 18 = .ok (.if_icmp .lt 8, 3) := by decide +kernel
theorem dX7_grey_21 : decode cX7_grey 21 = .ok (.bipush (-14), 2) := by decide +kernel
theorem dX7_grey_23 : decode cX7_grey 23 = .ok (.goto 13, 3) := by decide +kernel
theorem dX7_grey_26 : decode cX7_grey 26 = .ok (.aload_n 0, 1) := by decide +kernel
theorem dX7_grey_27 : decode cX7_grey 27 = .ok (.getfield 7, 3) := by decide +kernel
theorem dX7_grey_30 : decode cX7_grey 30 = .ok (.sipush 169, 3) := by decide +kernel
theorem dX7_grey_33 : decode cX7_grey 33 = .ok (.iload_n 1, 1) := by decide +kernel
theorem dX7_grey_34 : decode cX7_grey 34 = .ok (.iadd, 1) := by decide +kernel
theorem dX7_grey_35 : decode cX7_grey 35 = .ok (.iaload, 1) := by decide +kernel
theorem dX7_grey_36 : decode cX7_grey 36 = .ok (.ireturn, 1) := by decide +kernel
theorem dX7_hangs_0 : decode cX7_hangs 0 = .ok (.aload_n 0, 1) := by decide +kernel
theorem dX7_hangs_1 : decode cX7_hangs 1 = .ok (.iload_n 1, 1) := by decide +kernel
theorem dX7_hangs_2 : decode cX7_hangs 2 = .ok (.invokevirtual 87, 3) := by decide +kernel
theorem dX7_hangs_5 : decode cX7_hangs 5 = .ok (.ifCond .ne 6, 3) := by decide +kernel
theorem dX7_hangs_8 : decode cX7_hangs 8 = .ok (.bipush (-11), 2) := by decide +kernel
theorem dX7_hangs_10 : decode cX7_hangs 10 = .ok (.ireturn, 1) := by decide +kernel
theorem dX7_hangs_11 : decode cX7_hangs 11 = .ok (.aload_n 0, 1) := by decide +kernel
theorem dX7_hangs_12 : decode cX7_hangs 12 = .ok (.iconst (-1), 1) := by decide +kernel
theorem dX7_hangs_13 : decode cX7_hangs 13 = .ok (.invokevirtual 50, 3) := by decide +kernel
theorem dX7_hangs_16 : decode cX7_hangs 16 = .ok (.istore_n 2, 1) := by decide +kernel
theorem dX7_hangs_17 : decode cX7_hangs 17 = .ok (.iload_n 2, 1) := by decide +kernel
theorem dX7_hangs_18 : decode cX7_hangs 18 = .ok (.iload_n 1, 1) := by decide +kernel
theorem dX7_hangs_19 : decode cX7_hangs 19 = .ok (.ishr, 1) := by decide +kernel
theorem dX7_hangs_20 : decode cX7_hangs 20 = .ok (.iconst 1, 1) := by decide +kernel
theorem dX7_hangs_21 : decode cX7_hangs 21 = .ok (.iand, 1) := by decide +kernel
theorem dX7_hangs_22 : decode cX7_hangs 22 = .ok (.ifCond .ne 8, 3) := by decide +kernel
theorem dX7_hangs_25 : decode cX7_hangs 25 = .ok (.bipush (-12), 2) := by decide +kernel
theorem dX7_hangs_27 : decode cX7_hangs 27 = .ok (.goto 12, 3) := by decide +kernel
theorem dX7_hangs_30 : decode cX7_hangs 30 = .ok (.iload_n 2, 1) := by decide +kernel
theorem dX7_hangs_31 : decode cX7_hangs 31 = .ok (.aload_n 0, 1) := by decide +kernel
theorem dX7_hangs_32 : decode cX7_hangs 32 = .ok (.iload_n 1, 1) := by decide +kernel
theorem dX7_hangs_33 : decode cX7_hangs 33 = .ok (.invokevirtual 50, 3) := by decide +kernel
theorem dX7_hangs_36 : decode cX7_hangs 36 = .ok (.iconst (-1), 1) := by decide +kernel
theorem dX7_hangs_37 : decode cX7_hangs 37 = .ok (.ixor, 1) := by decide +kernel
theorem dX7_hangs_38 : decode cX7_hangs 38 = .ok (.iand, 1) := by decide +kernel
theorem dX7_hangs_39 : decode cX7_hangs 39 = .ok (.ireturn, 1) := by decide +kernel
theorem dX7_keep_0 : decode cX7_keep 0 = .ok (.aload_n 0, 1) := by decide +kernel
theorem dX7_keep_1 : decode cX7_keep 1 = .ok (.getfield 7, 3) := by decide +kernel
theorem dX7_keep_4 : decode cX7_keep 4 = .ok (.aload_n 0, 1) := by decide +kernel
theorem dX7_keep_5 : decode cX7_keep 5 = .ok (.getfield 22, 3) := by decide +kernel
theorem dX7_keep_8 : decode cX7_keep 8 = .ok (.invokestatic 138, 3) := by decide +kernel
theorem dX7_keep_11 : decode cX7_keep 11 = .ok (.aload_n 0, 1) := by decide +kernel
theorem dX7_keep_12 : decode cX7_keep 12 = .ok (.iconst 1, 1) := by decide +kernel
theorem dX7_keep_13 : decode cX7_keep 13 = .ok (.putfield 135, 3) := by decide +kernel
theorem dX7_keep_16 : decode cX7_keep 16 = .ok (.aload_n 0, 1) := by decide +kernel
theorem dX7_keep_17 : decode cX7_keep 17 = .ok (.iconst 0, 1) := by decide +kernel
theorem dX7_keep_18 : decode cX7_keep 18 = .ok (.invokevirtual 142, 3) := by decide +kernel
theorem dX7_keep_21 : decode cX7_keep 21 = .ok (.ireturn, 1) := by decide +kernel
theorem dX7_late_0 : decode cX7_late 0 = .ok (.iconst 0, 1) := by decide +kernel
theorem dX7_late_1 : decode cX7_late 1 = .ok (.istore_n 1, 1) := by decide +kernel
theorem dX7_late_2 : decode cX7_late 2 = .ok (.aload_n 0, 1) := by decide +kernel
theorem dX7_late_3 : decode cX7_late 3 = .ok (.invokevirtual 54, 3) := by decide +kernel
theorem dX7_late_6 : decode cX7_late 6 = .ok (.istore_n 2, 1) := by decide +kernel
theorem dX7_late_7 : decode cX7_late 7 = .ok (.iconst 0, 1) := by decide +kernel
theorem dX7_late_8 : decode cX7_late 8 = .ok (.istore_n 3, 1) := by decide +kernel
theorem dX7_late_9 : decode cX7_late 9 = .ok (.iload_n 3, 1) := by decide +kernel
theorem dX7_late_10 : decode cX7_late 10 = .ok (.bipush 24, 2) := by decide +kernel
theorem dX7_late_12 : decode cX7_late 12 = .ok (.if_icmp .ge 89, 3) := by decide +kernel
theorem dX7_late_15 : decode cX7_late 15 = .ok (.aload_n 0, 1) := by decide +kernel
theorem dX7_late_16 : decode cX7_late 16 = .ok (.getfield 7, 3) := by decide +kernel
theorem dX7_late_19 : decode cX7_late 19 = .ok (.sipush 226, 3) := by decide +kernel
theorem dX7_late_22 : decode cX7_late 22 = .ok (.iaload, 1) := by decide +kernel
theorem dX7_late_23 : decode cX7_late 23 = .ok (.ifCond .le 78, 3) := by decide +kernel
theorem dX7_late_26 : decode cX7_late 26 = .ok (.aload_n 0, 1) := by decide +kernel
theorem dX7_late_27 : decode cX7_late 27 = .ok (.iload_n 3, 1) := by decide +kernel
theorem dX7_late_28 : decode cX7_late 28 = .ok (.iconst 5, 1) := by decide +kernel
theorem dX7_late_29 : decode cX7_late 29 = .ok (.invokevirtual 43, 3) := by decide +kernel
theorem dX7_late_32 : decode cX7_late 32 = .ok (.ifCond .ne 27, 3) := by decide +kernel
theorem dX7_late_35 : decode cX7_late 35 = .ok (.aload_n 0, 1) := by decide +kernel
theorem dX7_late_36 : decode cX7_late 36 = .ok (.getfield 7, 3) := by decide +kernel
theorem dX7_late_39 : decode cX7_late 39 = .ok (.sipush 226, 3) := by decide +kernel
theorem dX7_late_42 : decode cX7_late 42 = .ok (.iaload, 1) := by decide +kernel
theorem dX7_late_43 : decode cX7_late 43 = .ok (.iconst 3, 1) := by decide +kernel
theorem dX7_late_44 : decode cX7_late 44 = .ok (.if_icmp .ne 19, 3) := by decide +kernel
theorem dX7_late_47 : decode cX7_late 47 = .ok (.iload_n 3, 1) := by decide +kernel
theorem dX7_late_48 : decode cX7_late 48 = .ok (.aload_n 0, 1) := by decide +kernel
theorem dX7_late_49 : decode cX7_late 49 = .ok (.getfield 7, 3) := by decide +kernel
theorem dX7_late_52 : decode cX7_late 52 = .ok (.sipush 227, 3) := by decide +kernel
theorem dX7_late_55 : decode cX7_late 55 = .ok (.iaload, 1) := by decide +kernel
theorem dX7_late_56 : decode cX7_late 56 = .ok (.if_icmp .ge 7, 3) := by decide +kernel
theorem dX7_late_59 : decode cX7_late 59 = .ok (.iconst 1, 1) := by decide +kernel
theorem dX7_late_60 : decode cX7_late 60 = .ok (.goto 4, 3) := by decide +kernel
theorem dX7_late_63 : decode cX7_late 63 = .ok (.iconst 0, 1) := by decide +kernel
theorem dX7_late_64 : decode cX7_late 64 = .ok (.istore 4, 2) := by decide +kernel
theorem dX7_late_66 : decode cX7_late 66 = .ok (.iload_n 1, 1) := by decide +kernel
theorem dX7_late_67 : decode cX7_late 67 = .ok (.aload_n 0, 1) := by decide +kernel
theorem dX7_late_68 : decode cX7_late 68 = .ok (.iload_n 3, 1) := by decide +kernel
theorem dX7_late_69 : decode cX7_late 69 = .ok (.invokevirtual 87, 3) := by decide +kernel
theorem dX7_late_72 : decode cX7_late 72 = .ok (.ifCond .eq 20, 3) := by decide +kernel
theorem dX7_late_75 : decode cX7_late 75 = .ok (.iload_n 2, 1) := by decide +kernel
theorem dX7_late_76 : decode cX7_late 76 = .ok (.iload_n 3, 1) := by decide +kernel
theorem dX7_late_77 : decode cX7_late 77 = .ok (.ishr, 1) := by decide +kernel
theorem dX7_late_78 : decode cX7_late 78 = .ok (.iconst 1, 1) := by decide +kernel
theorem dX7_late_79 : decode cX7_late 79 = .ok (.iand, 1) := by decide +kernel
theorem dX7_late_80 : decode cX7_late 80 = .ok (.ifCond .ne 12, 3) := by decide +kernel
theorem dX7_late_83 : decode cX7_late 83 = .ok (.iload 4, 2) := by decide +kernel
theorem dX7_late_85 : decode cX7_late 85 = .ok (.ifCond .eq 7, 3) := by decide +kernel
theorem dX7_late_88 : decode cX7_late 88 = .ok (.iconst 1, 1) := by decide +kernel
theorem dX7_late_89 : decode cX7_late 89 = .ok (.goto 4, 3) := by decide +kernel
theorem dX7_late_92 : decode cX7_late 92 = .ok (.iconst 0, 1) := by decide +kernel
theorem dX7_late_93 : decode cX7_late 93 = .ok (.iadd, 1) := by decide +kernel
theorem dX7_late_94 : decode cX7_late 94 = .ok (.istore_n 1, 1) := by decide +kernel
theorem dX7_late_95 : decode cX7_late 95 = .ok (.iinc 3 1, 3) := by decide +kernel
theorem dX7_late_98 : decode cX7_late 98 = .ok (.goto (-89), 3) := by decide +kernel
theorem dX7_late_101 : decode cX7_late 101 = .ok (.iload_n 1, 1) := by decide +kernel
theorem dX7_late_102 : decode cX7_late 102 = .ok (.ireturn, 1) := by decide +kernel
theorem dX7_placeIn_0 : decode cX7_placeIn 0 = .ok (.iconst 0, 1) := by decide +kernel
theorem dX7_placeIn_1 : decode cX7_placeIn 1 = .ok (.istore_n 2, 1) := by decide +kernel
theorem dX7_placeIn_2 : decode cX7_placeIn 2 = .ok (.iload_n 2, 1) := by decide +kernel
theorem dX7_placeIn_3 : decode cX7_placeIn 3 = .ok (.aload_n 0, 1) := by decide +kernel
theorem dX7_placeIn_4 : decode cX7_placeIn 4 = .ok (.getfield 7, 3) := by decide +kernel
theorem dX7_placeIn_7 : decode cX7_placeIn 7 = .ok (.sipush 193, 3) := by decide +kernel
theorem dX7_placeIn_10 : decode cX7_placeIn 10 = .ok (.iaload, 1) := by decide +kernel
theorem dX7_placeIn_11 : decode cX7_placeIn 11 = .ok (.if_icmp .ge 25, 3) := by decide +kernel
theorem dX7_placeIn_14 : decode cX7_placeIn 14 = .ok (.aload_n 0, 1) := by decide +kernel
theorem dX7_placeIn_15 : decode cX7_placeIn 15 = .ok (.getfield 7, 3) := by decide +kernel
theorem dX7_placeIn_18 : decode cX7_placeIn 18 = .ok (.sipush 194, 3) := by decide +kernel
theorem dX7_placeIn_21 : decode cX7_placeIn 21 = .ok (.iload_n 2, 1) := by decide +kernel
theorem dX7_placeIn_22 : decode cX7_placeIn 22 = .ok (.iadd, 1) := by decide +kernel
theorem dX7_placeIn_23 : decode cX7_placeIn 23 = .ok (.iaload, 1) := by decide +kernel
theorem dX7_placeIn_24 : decode cX7_placeIn 24 = .ok (.iload_n 1, 1) := by decide +kernel
theorem dX7_placeIn_25 : decode cX7_placeIn 25 = .ok (.if_icmp .ne 5, 3) := by decide +kernel
theorem dX7_placeIn_28 : decode cX7_placeIn 28 = .ok (.iload_n 2, 1) := by decide +kernel
theorem dX7_placeIn_29 : decode cX7_placeIn 29 = .ok (.ireturn, 1) := by decide +kernel
theorem dX7_placeIn_30 : decode cX7_placeIn 30 = .ok (.iinc 2 1, 3) := by decide +kernel
theorem dX7_placeIn_33 : decode cX7_placeIn 33 = .ok (.goto (-31), 3) := by decide +kernel
theorem dX7_placeIn_36 : decode cX7_placeIn 36 = .ok (.iconst (-1), 1) := by decide +kernel
theorem dX7_placeIn_37 : decode cX7_placeIn 37 = .ok (.ireturn, 1) := by decide +kernel
theorem dX7_objectOf_0 : decode cX7_objectOf 0 = .ok (.aload_n 0, 1) := by decide +kernel
theorem dX7_objectOf_1 : decode cX7_objectOf 1 = .ok (.iload_n 1, 1) := by decide +kernel
theorem dX7_objectOf_2 : decode cX7_objectOf 2 = .ok (.invokevirtual 87, 3) := by decide +kernel
theorem dX7_objectOf_5 : decode cX7_objectOf 5 = .ok (.ifCond .eq 13, 3) := by decide +kernel
theorem dX7_objectOf_8 : decode cX7_objectOf 8 = .ok (.iload_n 2, 1) := by decide +kernel
theorem dX7_objectOf_9 : decode cX7_objectOf 9 = .ok (.iconst 0, 1) := by decide +kernel
theorem dX7_objectOf_10 : decode cX7_objectOf 10 = .ok (.bipush 7, 2) := by decide +kernel
theorem dX7_objectOf_12 : decode cX7_objectOf 12 = .ok (.invokestatic 39, 3) := by decide +kernel
theorem dX7_objectOf_15 : decode cX7_objectOf 15 = .ok (.ifCond .ne 6, 3) := by decide +kernel
theorem dX7_objectOf_18 : decode cX7_objectOf 18 = .ok (.bipush (-11), 2) := by decide +kernel
theorem dX7_objectOf_20 : decode cX7_objectOf 20 = .ok (.ireturn, 1) := by decide +kernel
theorem dX7_objectOf_21 : decode cX7_objectOf 21 = .ok (.iload_n 2, 1) := by decide +kernel
theorem dX7_objectOf_22 : decode cX7_objectOf 22 = .ok (.tableswitch 83 0 6 #[42, 49, 49, 49, 60, 67, 77], 42) := by decide +kernel
theorem dX7_objectOf_64 : decode cX7_objectOf 64 = .ok (.aload_n 0, 1) := by decide +kernel
theorem dX7_objectOf_65 : decode cX7_objectOf 65 = .ok (.iload_n 1, 1) := by decide +kernel
theorem dX7_objectOf_66 : decode cX7_objectOf 66 = .ok (.iconst 5, 1) := by decide +kernel
theorem dX7_objectOf_67 : decode cX7_objectOf 67 = .ok (.invokevirtual 43, 3) := by decide +kernel
theorem dX7_objectOf_70 : decode cX7_objectOf 70 = .ok (.ireturn, 1) := by decide +kernel
theorem dX7_objectOf_71 : decode cX7_objectOf 71 = .ok (.aload_n 0, 1) := by decide +kernel
theorem dX7_objectOf_72 : decode cX7_objectOf 72 = .ok (.iload_n 1, 1) := by decide +kernel
theorem dX7_objectOf_73 : decode cX7_objectOf 73 = .ok (.iconst 1, 1) := by decide +kernel
theorem dX7_objectOf_74 : decode cX7_objectOf 74 = .ok (.iload_n 2, 1) := by decide +kernel
theorem dX7_objectOf_75 : decode cX7_objectOf 75 = .ok (.iadd, 1) := by decide +kernel
theorem dX7_objectOf_76 : decode cX7_objectOf 76 = .ok (.iconst 1, 1) := by decide +kernel
theorem dX7_objectOf_77 : decode cX7_objectOf 77 = .ok (.isub, 1) := by decide +kernel
theorem dX7_objectOf_78 : decode cX7_objectOf 78 = .ok (.invokevirtual 43, 3) := by decide +kernel
theorem dX7_objectOf_81 : decode cX7_objectOf 81 = .ok (.ireturn, 1) := by decide +kernel
theorem dX7_objectOf_82 : decode cX7_objectOf 82 = .ok (.aload_n 0, 1) := by decide +kernel
theorem dX7_objectOf_83 : decode cX7_objectOf 83 = .ok (.iload_n 1, 1) := by decide +kernel
theorem dX7_objectOf_84 : decode cX7_objectOf 84 = .ok (.iconst 4, 1) := by decide +kernel
theorem dX7_objectOf_85 : decode cX7_objectOf 85 = .ok (.invokevirtual 43, 3) := by decide +kernel
theorem dX7_objectOf_88 : decode cX7_objectOf 88 = .ok (.ireturn, 1) := by decide +kernel
theorem dX7_objectOf_89 : decode cX7_objectOf 89 = .ok (.aload_n 0, 1) := by decide +kernel
theorem dX7_objectOf_90 : decode cX7_objectOf 90 = .ok (.iconst (-1), 1) := by decide +kernel
theorem dX7_objectOf_91 : decode cX7_objectOf 91 = .ok (.invokevirtual 50, 3) := by decide +kernel
theorem dX7_objectOf_94 : decode cX7_objectOf 94 = .ok (.iload_n 1, 1) := by decide +kernel
theorem dX7_objectOf_95 : decode cX7_objectOf 95 = .ok (.ishr, 1) := by decide +kernel
theorem dX7_objectOf_96 : decode cX7_objectOf 96 = .ok (.iconst 1, 1) := by decide +kernel
theorem dX7_objectOf_97 : decode cX7_objectOf 97 = .ok (.iand, 1) := by decide +kernel
theorem dX7_objectOf_98 : decode cX7_objectOf 98 = .ok (.ireturn, 1) := by decide +kernel
theorem dX7_objectOf_99 : decode cX7_objectOf 99 = .ok (.aload_n 0, 1) := by decide +kernel
theorem dX7_objectOf_100 : decode cX7_objectOf 100 = .ok (.iload_n 1, 1) := by decide +kernel
theorem dX7_objectOf_101 : decode cX7_objectOf 101 = .ok (.invokevirtual 123, 3) := by decide +kernel
theorem dX7_objectOf_104 : decode cX7_objectOf 104 = .ok (.ireturn, 1) := by decide +kernel
theorem dX7_objectOf_105 : decode cX7_objectOf 105 = .ok (.aload_n 0, 1) := by decide +kernel
theorem dX7_objectOf_106 : decode cX7_objectOf 106 = .ok (.iload_n 1, 1) := by decide +kernel
theorem dX7_objectOf_107 : decode cX7_objectOf 107 = .ok (.bipush 6, 2) := by decide +kernel
theorem dX7_objectOf_109 : decode cX7_objectOf 109 = .ok (.invokevirtual 43, 3) := by decide +kernel
theorem dX7_objectOf_112 : decode cX7_objectOf 112 = .ok (.ireturn, 1) := by decide +kernel
theorem dX7_objects_0 : decode cX7_objects 0 = .ok (.iload_n 1, 1) := by decide +kernel
theorem dX7_objects_1 : decode cX7_objects 1 = .ok (.tableswitch 90 0 7 #[47, 54, 60, 65, 65, 65, 74, 81], 47) := by decide +kernel
theorem dX7_objects_48 : decode cX7_objects 48 = .ok (.aload_n 0, 1) := by decide +kernel
theorem dX7_objects_49 : decode cX7_objects 49 = .ok (.iconst 0, 1) := by decide +kernel
theorem dX7_objects_50 : decode cX7_objects 50 = .ok (.iconst 1, 1) := by decide +kernel
theorem dX7_objects_51 : decode cX7_objects 51 = .ok (.invokevirtual 126, 3) := by decide +kernel
theorem dX7_objects_54 : decode cX7_objects 54 = .ok (.ireturn, 1) := by decide +kernel
theorem dX7_objects_55 : decode cX7_objects 55 = .ok (.aload_n 0, 1) := by decide +kernel
theorem dX7_objects_56 : decode cX7_objects 56 = .ok (.iconst (-1), 1) := by decide +kernel
theorem dX7_objects_57 : decode cX7_objects 57 = .ok (.invokevirtual 50, 3) := by decide +kernel
theorem dX7_objects_60 : decode cX7_objects 60 = .ok (.ireturn, 1) := by decide +kernel
theorem dX7_objects_61 : decode cX7_objects 61 = .ok (.aload_n 0, 1) := by decide +kernel
theorem dX7_objects_62 : decode cX7_objects 62 = .ok (.invokevirtual 54, 3) := by decide +kernel
theorem dX7_objects_65 : decode cX7_objects 65 = .ok (.ireturn, 1) := by decide +kernel
theorem dX7_objects_66 : decode cX7_objects 66 = .ok (.aload_n 0, 1) := by decide +kernel
theorem dX7_objects_67 : decode cX7_objects 67 = .ok (.iconst 5, 1) := by decide +kernel
theorem dX7_objects_68 : decode cX7_objects 68 = .ok (.iload_n 1, 1) := by decide +kernel
theorem dX7_objects_69 : decode cX7_objects 69 = .ok (.iconst 3, 1) := by decide +kernel
theorem dX7_objects_70 : decode cX7_objects 70 = .ok (.isub, 1) := by decide +kernel
theorem dX7_objects_71 : decode cX7_objects 71 = .ok (.invokevirtual 126, 3) := by decide +kernel
theorem dX7_objects_74 : decode cX7_objects 74 = .ok (.ireturn, 1) := by decide +kernel
theorem dX7_objects_75 : decode cX7_objects 75 = .ok (.aload_n 0, 1) := by decide +kernel
theorem dX7_objects_76 : decode cX7_objects 76 = .ok (.iconst 4, 1) := by decide +kernel
theorem dX7_objects_77 : decode cX7_objects 77 = .ok (.iconst 1, 1) := by decide +kernel
theorem dX7_objects_78 : decode cX7_objects 78 = .ok (.invokevirtual 126, 3) := by decide +kernel
theorem dX7_objects_81 : decode cX7_objects 81 = .ok (.ireturn, 1) := by decide +kernel
theorem dX7_objects_82 : decode cX7_objects 82 = .ok (.aload_n 0, 1) := by decide +kernel
theorem dX7_objects_83 : decode cX7_objects 83 = .ok (.getfield 7, 3) := by decide +kernel
theorem dX7_objects_86 : decode cX7_objects 86 = .ok (.sipush 233, 3) := by decide +kernel
theorem dX7_objects_89 : decode cX7_objects 89 = .ok (.iaload, 1) := by decide +kernel
theorem dX7_objects_90 : decode cX7_objects 90 = .ok (.ireturn, 1) := by decide +kernel
theorem dX7_objects_91 : decode cX7_objects 91 = .ok (.bipush (-11), 2) := by decide +kernel
theorem dX7_objects_93 : decode cX7_objects 93 = .ok (.ireturn, 1) := by decide +kernel
theorem dX7_play_0 : decode cX7_play 0 = .ok (.aload_n 0, 1) := by decide +kernel
theorem dX7_play_1 : decode cX7_play 1 = .ok (.getfield 7, 3) := by decide +kernel
theorem dX7_play_4 : decode cX7_play 4 = .ok (.aload_n 0, 1) := by decide +kernel
theorem dX7_play_5 : decode cX7_play 5 = .ok (.getfield 16, 3) := by decide +kernel
theorem dX7_play_8 : decode cX7_play 8 = .ok (.invokestatic 138, 3) := by decide +kernel
theorem dX7_play_11 : decode cX7_play 11 = .ok (.aload_n 0, 1) := by decide +kernel
theorem dX7_play_12 : decode cX7_play 12 = .ok (.invokevirtual 192, 3) := by decide +kernel
theorem dX7_play_15 : decode cX7_play 15 = .ok (.istore_n 1, 1) := by decide +kernel
theorem dX7_play_16 : decode cX7_play 16 = .ok (.aload_n 0, 1) := by decide +kernel
theorem dX7_play_17 : decode cX7_play 17 = .ok (.getfield 16, 3) := by decide +kernel
theorem dX7_play_20 : decode cX7_play 20 = .ok (.aload_n 0, 1) := by decide +kernel
theorem dX7_play_21 : decode cX7_play 21 = .ok (.getfield 7, 3) := by decide +kernel
theorem dX7_play_24 : decode cX7_play 24 = .ok (.invokestatic 138, 3) := by decide +kernel
theorem dX7_play_27 : decode cX7_play 27 = .ok (.iload_n 1, 1) := by decide +kernel
theorem dX7_play_28 : decode cX7_play 28 = .ok (.bipush (-14), 2) := by decide +kernel
theorem dX7_play_30 : decode cX7_play 30 = .ok (.if_icmp .eq 6, 3) := by decide +kernel
theorem dX7_play_33 : decode cX7_play 33 = .ok (.bipush (-12), 2) := by decide +kernel
theorem dX7_play_35 : decode cX7_play 35 = .ok (.ireturn, 1) := by decide +kernel
theorem dX7_play_36 : decode cX7_play 36 = .ok (.aload_n 0, 1) := by decide +kernel
theorem dX7_play_37 : decode cX7_play 37 = .ok (.invokevirtual 81, 3) := by decide +kernel
theorem dX7_play_40 : decode cX7_play 40 = .ok (.aload_n 0, 1) := by decide +kernel
theorem dX7_play_41 : decode cX7_play 41 = .ok (.invokevirtual 192, 3) := by decide +kernel
theorem dX7_play_44 : decode cX7_play 44 = .ok (.bipush (-14), 2) := by decide +kernel
theorem dX7_play_46 : decode cX7_play 46 = .ok (.if_icmp .ne 10, 3) := by decide +kernel
theorem dX7_play_49 : decode cX7_play 49 = .ok (.aload_n 0, 1) := by decide +kernel
theorem dX7_play_50 : decode cX7_play 50 = .ok (.getfield 180, 3) := by decide +kernel
theorem dX7_play_53 : decode cX7_play 53 = .ok (.goto 5, 3) := by decide +kernel
theorem dX7_play_56 : decode cX7_play 56 = .ok (.bipush (-14), 2) := by decide +kernel
theorem dX7_play_58 : decode cX7_play 58 = .ok (.ireturn, 1) := by decide +kernel
theorem dX7_refers_0 : decode cX7_refers 0 = .ok (.iload_n 1, 1) := by decide +kernel
theorem dX7_refers_1 : decode cX7_refers 1 = .ok (.iconst 0, 1) := by decide +kernel
theorem dX7_refers_2 : decode cX7_refers 2 = .ok (.iconst 1, 1) := by decide +kernel
theorem dX7_refers_3 : decode cX7_refers 3 = .ok (.invokestatic 39, 3) := by decide +kernel
theorem dX7_refers_6 : decode cX7_refers 6 = .ok (.ifCond .eq 10, 3) := by decide +kernel
theorem dX7_refers_9 : decode cX7_refers 9 = .ok (.iload_n 2, 1) := by decide +kernel
theorem dX7_refers_10 : decode cX7_refers 10 = .ok (.invokestatic 74, 3) := by decide +kernel
theorem dX7_refers_13 : decode cX7_refers 13 = .ok (.ifCond .ne 6, 3) := by decide +kernel
theorem dX7_refers_16 : decode cX7_refers 16 = .ok (.bipush (-11), 2) := by decide +kernel
theorem dX7_refers_18 : decode cX7_refers 18 = .ok (.ireturn, 1) := by decide +kernel
theorem dX7_refers_19 : decode cX7_refers 19 = .ok (.aload_n 0, 1) := by decide +kernel
theorem dX7_refers_20 : decode cX7_refers 20 = .ok (.getfield 7, 3) := by decide +kernel
theorem dX7_refers_23 : decode cX7_refers 23 = .ok (.iload_n 1, 1) := by decide +kernel
theorem dX7_refers_24 : decode cX7_refers 24 = .ok (.ifCond .ne 9, 3) := by decide +kernel
theorem dX7_refers_27 : decode cX7_refers 27 = .ok (.sipush 218, 3) := by decide +kernel
theorem dX7_refers_30 : decode cX7_refers 30 = .ok (.goto 6, 3) := by decide +kernel
theorem dX7_refers_33 : decode cX7_refers 33 = .ok (.sipush 222, 3) := by decide +kernel
theorem dX7_refers_36 : decode cX7_refers 36 = .ok (.iload_n 2, 1) := by decide +kernel
theorem dX7_refers_37 : decode cX7_refers 37 = .ok (.iadd, 1) := by decide +kernel
theorem dX7_refers_38 : decode cX7_refers 38 = .ok (.iaload, 1) := by decide +kernel
theorem dX7_refers_39 : decode cX7_refers 39 = .ok (.istore_n 3, 1) := by decide +kernel
theorem dX7_refers_40 : decode cX7_refers 40 = .ok (.iload_n 3, 1) := by decide +kernel
theorem dX7_refers_41 : decode cX7_refers 41 = .ok (.ifCond .ge 8, 3) := by decide +kernel
theorem dX7_refers_44 : decode cX7_refers 44 = .ok (.bipush (-14), 2) := by decide +kernel
theorem dX7_refers_46 : decode cX7_refers 46 = .ok (.goto 4, 3) := by decide +kernel
theorem dX7_refers_49 : decode cX7_refers 49 = .ok (.iload_n 3, 1) := by decide +kernel
theorem dX7_refers_50 : decode cX7_refers 50 = .ok (.ireturn, 1) := by decide +kernel
theorem dX7_restore_0 : decode cX7_restore 0 = .ok (.aload_n 0, 1) := by decide +kernel
theorem dX7_restore_1 : decode cX7_restore 1 = .ok (.getfield 135, 3) := by decide +kernel
theorem dX7_restore_4 : decode cX7_restore 4 = .ok (.ifCond .ne 6, 3) := by decide +kernel
theorem dX7_restore_7 : decode cX7_restore 7 = .ok (.bipush (-12), 2) := by decide +kernel
theorem dX7_restore_9 : decode cX7_restore 9 = .ok (.ireturn, 1) := by decide +kernel
theorem dX7_restore_10 : decode cX7_restore 10 = .ok (.aload_n 0, 1) := by decide +kernel
theorem dX7_restore_11 : decode cX7_restore 11 = .ok (.invokevirtual 81, 3) := by decide +kernel
theorem dX7_restore_14 : decode cX7_restore 14 = .ok (.aload_n 0, 1) := by decide +kernel
theorem dX7_restore_15 : decode cX7_restore 15 = .ok (.getfield 22, 3) := by decide +kernel
theorem dX7_restore_18 : decode cX7_restore 18 = .ok (.aload_n 0, 1) := by decide +kernel
theorem dX7_restore_19 : decode cX7_restore 19 = .ok (.getfield 7, 3) := by decide +kernel
theorem dX7_restore_22 : decode cX7_restore 22 = .ok (.invokestatic 138, 3) := by decide +kernel
theorem dX7_restore_25 : decode cX7_restore 25 = .ok (.aload_n 0, 1) := by decide +kernel
theorem dX7_restore_26 : decode cX7_restore 26 = .ok (.iconst 0, 1) := by decide +kernel
theorem dX7_restore_27 : decode cX7_restore 27 = .ok (.invokevirtual 142, 3) := by decide +kernel
theorem dX7_restore_30 : decode cX7_restore 30 = .ok (.ireturn, 1) := by decide +kernel
theorem dX7_set_0 : decode cX7_set 0 = .ok (.iload_n 1, 1) := by decide +kernel
theorem dX7_set_1 : decode cX7_set 1 = .ok (.iconst 1, 1) := by decide +kernel
theorem dX7_set_2 : decode cX7_set 2 = .ok (.iconst 2, 1) := by decide +kernel
theorem dX7_set_3 : decode cX7_set 3 = .ok (.invokestatic 39, 3) := by decide +kernel
theorem dX7_set_6 : decode cX7_set 6 = .ok (.ifCond .ne 6, 3) := by decide +kernel
theorem dX7_set_9 : decode cX7_set 9 = .ok (.bipush (-11), 2) := by decide +kernel
theorem dX7_set_11 : decode cX7_set 11 = .ok (.ireturn, 1) := by decide +kernel
theorem dX7_set_12 : decode cX7_set 12 = .ok (.aload_n 0, 1) := by decide +kernel
theorem dX7_set_13 : decode cX7_set 13 = .ok (.getfield 7, 3) := by decide +kernel
theorem dX7_set_16 : decode cX7_set 16 = .ok (.sipush 226, 3) := by decide +kernel
theorem dX7_set_19 : decode cX7_set 19 = .ok (.iaload, 1) := by decide +kernel
theorem dX7_set_20 : decode cX7_set 20 = .ok (.ifCond .le 6, 3) := by decide +kernel
theorem dX7_set_23 : decode cX7_set 23 = .ok (.bipush (-12), 2) := by decide +kernel
theorem dX7_set_25 : decode cX7_set 25 = .ok (.ireturn, 1) := by decide +kernel
theorem dX7_set_26 : decode cX7_set 26 = .ok (.aload_n 0, 1) := by decide +kernel
theorem dX7_set_27 : decode cX7_set 27 = .ok (.invokevirtual 81, 3) := by decide +kernel
theorem dX7_set_30 : decode cX7_set 30 = .ok (.aload_n 0, 1) := by decide +kernel
theorem dX7_set_31 : decode cX7_set 31 = .ok (.getfield 7, 3) := by decide +kernel
theorem dX7_set_34 : decode cX7_set 34 = .ok (.sipush 234, 3) := by decide +kernel
theorem dX7_set_37 : decode cX7_set 37 = .ok (.iaload, 1) := by decide +kernel
theorem dX7_set_38 : decode cX7_set 38 = .ok (.istore_n 2, 1) := by decide +kernel
theorem dX7_set_39 : decode cX7_set 39 = .ok (.aload_n 0, 1) := by decide +kernel
theorem dX7_set_40 : decode cX7_set 40 = .ok (.getfield 7, 3) := by decide +kernel
theorem dX7_set_43 : decode cX7_set 43 = .ok (.sipush 234, 3) := by decide +kernel
theorem dX7_set_46 : decode cX7_set 46 = .ok (.iload_n 1, 1) := by decide +kernel
theorem dX7_set_47 : decode cX7_set 47 = .ok (.iastore, 1) := by decide +kernel
theorem dX7_set_48 : decode cX7_set 48 = .ok (.iload_n 2, 1) := by decide +kernel
theorem dX7_set_49 : decode cX7_set 49 = .ok (.ireturn, 1) := by decide +kernel
theorem dX7_type_0 : decode cX7_type 0 = .ok (.iload_n 1, 1) := by decide +kernel
theorem dX7_type_1 : decode cX7_type 1 = .ok (.bipush 32, 2) := by decide +kernel
theorem dX7_type_3 : decode cX7_type 3 = .ok (.bipush 126, 2) := by decide +kernel
theorem dX7_type_5 : decode cX7_type 5 = .ok (.invokestatic 39, 3) := by decide +kernel
theorem dX7_type_8 : decode cX7_type 8 = .ok (.ifCond .ne 6, 3) := by decide +kernel
theorem dX7_type_11 : decode cX7_type 11 = .ok (.bipush (-11), 2) := by decide +kernel
theorem dX7_type_13 : decode cX7_type 13 = .ok (.ireturn, 1) := by decide +kernel
theorem dX7_type_14 : decode cX7_type 14 = .ok (.aload_n 0, 1) := by decide +kernel
theorem dX7_type_15 : decode cX7_type 15 = .ok (.getfield 132, 3) := by decide +kernel
theorem dX7_type_18 : decode cX7_type 18 = .ok (.bipush 60, 2) := by decide +kernel
theorem dX7_type_20 : decode cX7_type 20 = .ok (.if_icmp .ne 6, 3) := by decide +kernel
theorem dX7_type_23 : decode cX7_type 23 = .ok (.bipush (-13), 2) := by decide +kernel
theorem dX7_type_25 : decode cX7_type 25 = .ok (.ireturn, 1) := by decide +kernel
theorem dX7_type_26 : decode cX7_type 26 = .ok (.aload_n 0, 1) := by decide +kernel
theorem dX7_type_27 : decode cX7_type 27 = .ok (.getfield 25, 3) := by decide +kernel
theorem dX7_type_30 : decode cX7_type 30 = .ok (.aload_n 0, 1) := by decide +kernel
theorem dX7_type_31 : decode cX7_type 31 = .ok (.getfield 132, 3) := by decide +kernel
theorem dX7_type_34 : decode cX7_type 34 = .ok (.iload_n 1, 1) := by decide +kernel
theorem dX7_type_35 : decode cX7_type 35 = .ok (.iastore, 1) := by decide +kernel
theorem dX7_type_36 : decode cX7_type 36 = .ok (.aload_n 0, 1) := by decide +kernel
theorem dX7_type_37 : decode cX7_type 37 = .ok (.dup, 1) := by decide +kernel
theorem dX7_type_38 : decode cX7_type 38 = .ok (.getfield 132, 3) := by decide +kernel
theorem dX7_type_41 : decode cX7_type 41 = .ok (.iconst 1, 1) := by decide +kernel
theorem dX7_type_42 : decode cX7_type 42 = .ok (.iadd, 1) := by decide +kernel
theorem dX7_type_43 : decode cX7_type 43 = .ok (.putfield 132, 3) := by decide +kernel
theorem dX7_type_46 : decode cX7_type 46 = .ok (.aload_n 0, 1) := by decide +kernel
theorem dX7_type_47 : decode cX7_type 47 = .ok (.getfield 132, 3) := by decide +kernel
theorem dX7_type_50 : decode cX7_type 50 = .ok (.ireturn, 1) := by decide +kernel
theorem dX7_undo_0 : decode cX7_undo 0 = .ok (.aload_n 0, 1) := by decide +kernel
theorem dX7_undo_1 : decode cX7_undo 1 = .ok (.getfield 35, 3) := by decide +kernel
theorem dX7_undo_4 : decode cX7_undo 4 = .ok (.ifCond .ne 6, 3) := by decide +kernel
theorem dX7_undo_7 : decode cX7_undo 7 = .ok (.bipush (-12), 2) := by decide +kernel
theorem dX7_undo_9 : decode cX7_undo 9 = .ok (.ireturn, 1) := by decide +kernel
theorem dX7_undo_10 : decode cX7_undo 10 = .ok (.aload_n 0, 1) := by decide +kernel
theorem dX7_undo_11 : decode cX7_undo 11 = .ok (.dup, 1) := by decide +kernel
theorem dX7_undo_12 : decode cX7_undo 12 = .ok (.getfield 35, 3) := by decide +kernel
theorem dX7_undo_15 : decode cX7_undo 15 = .ok (.iconst 1, 1) := by decide +kernel
theorem dX7_undo_16 : decode cX7_undo 16 = .ok (.isub, 1) := by decide +kernel
theorem dX7_undo_17 : decode cX7_undo 17 = .ok (.putfield 35, 3) := by decide +kernel
theorem dX7_undo_20 : decode cX7_undo 20 = .ok (.iconst 0, 1) := by decide +kernel
theorem dX7_undo_21 : decode cX7_undo 21 = .ok (.istore_n 1, 1) := by decide +kernel
theorem dX7_undo_22 : decode cX7_undo 22 = .ok (.iload_n 1, 1) := by decide +kernel
theorem dX7_undo_23 : decode cX7_undo 23 = .ok (.sipush 235, 3) := by decide +kernel
theorem dX7_undo_26 : decode cX7_undo 26 = .ok (.if_icmp .ge 30, 3) := by decide +kernel
theorem dX7_undo_29 : decode cX7_undo 29 = .ok (.aload_n 0, 1) := by decide +kernel
theorem dX7_undo_30 : decode cX7_undo 30 = .ok (.getfield 7, 3) := by decide +kernel
theorem dX7_undo_33 : decode cX7_undo 33 = .ok (.iload_n 1, 1) := by decide +kernel
theorem dX7_undo_34 : decode cX7_undo 34 = .ok (.aload_n 0, 1) := by decide +kernel
theorem dX7_undo_35 : decode cX7_undo 35 = .ok (.getfield 13, 3) := by decide +kernel
theorem dX7_undo_38 : decode cX7_undo 38 = .ok (.sipush 235, 3) := by decide +kernel
theorem dX7_undo_41 : decode cX7_undo 41 = .ok (.aload_n 0, 1) := by decide +kernel
theorem dX7_undo_42 : decode cX7_undo 42 = .ok (.getfield 35, 3) := by decide +kernel
theorem dX7_undo_45 : decode cX7_undo 45 = .ok (.imul, 1) := by decide +kernel
theorem dX7_undo_46 : decode cX7_undo 46 = .ok (.iload_n 1, 1) := by decide +kernel
theorem dX7_undo_47 : decode cX7_undo 47 = .ok (.iadd, 1) := by decide +kernel
theorem dX7_undo_48 : decode cX7_undo 48 = .ok (.iaload, 1) := by decide +kernel
theorem dX7_undo_49 : decode cX7_undo 49 = .ok (.iastore, 1) := by decide +kernel
theorem dX7_undo_50 : decode cX7_undo 50 = .ok (.iinc 1 1, 3) := by decide +kernel
theorem dX7_undo_53 : decode cX7_undo 53 = .ok (.goto (-31), 3) := by decide +kernel
theorem dX7_undo_56 : decode cX7_undo 56 = .ok (.aload_n 0, 1) := by decide +kernel
theorem dX7_undo_57 : decode cX7_undo 57 = .ok (.getfield 35, 3) := by decide +kernel
theorem dX7_undo_60 : decode cX7_undo 60 = .ok (.ireturn, 1) := by decide +kernel
theorem dX7_wanting_0 : decode cX7_wanting 0 = .ok (.iconst 0, 1) := by decide +kernel
theorem dX7_wanting_1 : decode cX7_wanting 1 = .ok (.istore_n 1, 1) := by decide +kernel
theorem dX7_wanting_2 : decode cX7_wanting 2 = .ok (.iconst 0, 1) := by decide +kernel
theorem dX7_wanting_3 : decode cX7_wanting 3 = .ok (.istore_n 2, 1) := by decide +kernel
theorem dX7_wanting_4 : decode cX7_wanting 4 = .ok (.iload_n 2, 1) := by decide +kernel
theorem dX7_wanting_5 : decode cX7_wanting 5 = .ok (.bipush 24, 2) := by decide +kernel
theorem dX7_wanting_7 : decode cX7_wanting 7 = .ok (.if_icmp .ge 32, 3) := by decide +kernel
theorem dX7_wanting_10 : decode cX7_wanting 10 = .ok (.iload_n 1, 1) := by decide +kernel
theorem dX7_wanting_11 : decode cX7_wanting 11 = .ok (.aload_n 0, 1) := by decide +kernel
theorem dX7_wanting_12 : decode cX7_wanting 12 = .ok (.iload_n 2, 1) := by decide +kernel
theorem dX7_wanting_13 : decode cX7_wanting 13 = .ok (.iconst 0, 1) := by decide +kernel
theorem dX7_wanting_14 : decode cX7_wanting 14 = .ok (.invokevirtual 43, 3) := by decide +kernel
theorem dX7_wanting_17 : decode cX7_wanting 17 = .ok (.iconst 1, 1) := by decide +kernel
theorem dX7_wanting_18 : decode cX7_wanting 18 = .ok (.if_icmp .ne 12, 3) := by decide +kernel
theorem dX7_wanting_21 : decode cX7_wanting 21 = .ok (.aload_n 0, 1) := by decide +kernel
theorem dX7_wanting_22 : decode cX7_wanting 22 = .ok (.iload_n 2, 1) := by decide +kernel
theorem dX7_wanting_23 : decode cX7_wanting 23 = .ok (.iconst 4, 1) := by decide +kernel
theorem dX7_wanting_24 : decode cX7_wanting 24 = .ok (.invokevirtual 43, 3) := by decide +kernel
theorem dX7_wanting_27 : decode cX7_wanting 27 = .ok (.goto 4, 3) := by decide +kernel
theorem dX7_wanting_30 : decode cX7_wanting 30 = .ok (.iconst 0, 1) := by decide +kernel
theorem dX7_wanting_31 : decode cX7_wanting 31 = .ok (.iadd, 1) := by decide +kernel
theorem dX7_wanting_32 : decode cX7_wanting 32 = .ok (.istore_n 1, 1) := by decide +kernel
theorem dX7_wanting_33 : decode cX7_wanting 33 = .ok (.iinc 2 1, 3) := by decide +kernel
theorem dX7_wanting_36 : decode cX7_wanting 36 = .ok (.goto (-32), 3) := by decide +kernel
theorem dX7_wanting_39 : decode cX7_wanting 39 = .ok (.iload_n 1, 1) := by decide +kernel
theorem dX7_wanting_40 : decode cX7_wanting 40 = .ok (.ireturn, 1) := by decide +kernel
theorem dX7_want_0 : decode cX7_want 0 = .ok (.aload_n 0, 1) := by decide +kernel
theorem dX7_want_1 : decode cX7_want 1 = .ok (.iload_n 1, 1) := by decide +kernel
theorem dX7_want_2 : decode cX7_want 2 = .ok (.invokevirtual 87, 3) := by decide +kernel
theorem dX7_want_5 : decode cX7_want 5 = .ok (.ifCond .ne 6, 3) := by decide +kernel
theorem dX7_want_8 : decode cX7_want 8 = .ok (.bipush (-11), 2) := by decide +kernel
theorem dX7_want_10 : decode cX7_want 10 = .ok (.ireturn, 1) := by decide +kernel
theorem dX7_want_11 : decode cX7_want 11 = .ok (.aload_n 0, 1) := by decide +kernel
theorem dX7_want_12 : decode cX7_want 12 = .ok (.iload_n 1, 1) := by decide +kernel
theorem dX7_want_13 : decode cX7_want 13 = .ok (.invokevirtual 90, 3) := by decide +kernel
theorem dX7_want_16 : decode cX7_want 16 = .ok (.ifCond .eq 13, 3) := by decide +kernel
theorem dX7_want_19 : decode cX7_want 19 = .ok (.aload_n 0, 1) := by decide +kernel
theorem dX7_want_20 : decode cX7_want 20 = .ok (.iload_n 1, 1) := by decide +kernel
theorem dX7_want_21 : decode cX7_want 21 = .ok (.iconst 4, 1) := by decide +kernel
theorem dX7_want_22 : decode cX7_want 22 = .ok (.invokevirtual 43, 3) := by decide +kernel
theorem dX7_want_25 : decode cX7_want 25 = .ok (.iconst 1, 1) := by decide +kernel
theorem dX7_want_26 : decode cX7_want 26 = .ok (.if_icmp .ne 6, 3) := by decide +kernel
theorem dX7_want_29 : decode cX7_want 29 = .ok (.bipush (-12), 2) := by decide +kernel
theorem dX7_want_31 : decode cX7_want 31 = .ok (.ireturn, 1) := by decide +kernel
theorem dX7_want_32 : decode cX7_want 32 = .ok (.aload_n 0, 1) := by decide +kernel
theorem dX7_want_33 : decode cX7_want 33 = .ok (.invokevirtual 81, 3) := by decide +kernel
theorem dX7_want_36 : decode cX7_want 36 = .ok (.aload_n 0, 1) := by decide +kernel
theorem dX7_want_37 : decode cX7_want 37 = .ok (.iload_n 1, 1) := by decide +kernel
theorem dX7_want_38 : decode cX7_want 38 = .ok (.iconst 4, 1) := by decide +kernel
theorem dX7_want_39 : decode cX7_want 39 = .ok (.iconst 1, 1) := by decide +kernel
theorem dX7_want_40 : decode cX7_want 40 = .ok (.invokevirtual 58, 3) := by decide +kernel
theorem dX7_want_43 : decode cX7_want 43 = .ok (.aload_n 0, 1) := by decide +kernel
theorem dX7_want_44 : decode cX7_want 44 = .ok (.invokevirtual 93, 3) := by decide +kernel
theorem dX7_want_47 : decode cX7_want 47 = .ok (.ireturn, 1) := by decide +kernel
theorem dX7_weak_0 : decode cX7_weak 0 = .ok (.iload_n 1, 1) := by decide +kernel
theorem dX7_weak_1 : decode cX7_weak 1 = .ok (.invokestatic 74, 3) := by decide +kernel
theorem dX7_weak_4 : decode cX7_weak 4 = .ok (.ifCond .eq 16, 3) := by decide +kernel
theorem dX7_weak_7 : decode cX7_weak 7 = .ok (.iload_n 2, 1) := by decide +kernel
theorem dX7_weak_8 : decode cX7_weak 8 = .ok (.iconst (-1), 1) := by decide +kernel
theorem dX7_weak_9 : decode cX7_weak 9 = .ok (.if_icmp .eq 14, 3) := by decide +kernel
theorem dX7_weak_12 : decode cX7_weak 12 = .ok (.aload_n 0, 1) := by decide +kernel
theorem dX7_weak_13 : decode cX7_weak 13 = .ok (.iload_n 2, 1) := by decide +kernel
theorem dX7_weak_14 : decode cX7_weak 14 = .ok (.invokevirtual 87, 3) := by decide +kernel
theorem dX7_weak_17 : decode cX7_weak 17 = .ok (.ifCond .ne 6, 3) := by decide +kernel
theorem dX7_weak_20 : decode cX7_weak 20 = .ok (.bipush (-11), 2) := by decide +kernel
theorem dX7_weak_22 : decode cX7_weak 22 = .ok (.ireturn, 1) := by decide +kernel
theorem dX7_weak_23 : decode cX7_weak 23 = .ok (.iload_n 2, 1) := by decide +kernel
theorem dX7_weak_24 : decode cX7_weak 24 = .ok (.ifCond .lt 14, 3) := by decide +kernel
theorem dX7_weak_27 : decode cX7_weak 27 = .ok (.aload_n 0, 1) := by decide +kernel
theorem dX7_weak_28 : decode cX7_weak 28 = .ok (.iload_n 2, 1) := by decide +kernel
theorem dX7_weak_29 : decode cX7_weak 29 = .ok (.invokevirtual 90, 3) := by decide +kernel
theorem dX7_weak_32 : decode cX7_weak 32 = .ok (.ifCond .ne 6, 3) := by decide +kernel
theorem dX7_weak_35 : decode cX7_weak 35 = .ok (.bipush (-12), 2) := by decide +kernel
theorem dX7_weak_37 : decode cX7_weak 37 = .ok (.ireturn, 1) := by decide +kernel
theorem dX7_weak_38 : decode cX7_weak 38 = .ok (.aload_n 0, 1) := by decide +kernel
theorem dX7_weak_39 : decode cX7_weak 39 = .ok (.invokevirtual 81, 3) := by decide +kernel
theorem dX7_weak_42 : decode cX7_weak 42 = .ok (.aload_n 0, 1) := by decide +kernel
theorem dX7_weak_43 : decode cX7_weak 43 = .ok (.getfield 7, 3) := by decide +kernel
theorem dX7_weak_46 : decode cX7_weak 46 = .ok (.sipush 222, 3) := by decide +kernel
theorem dX7_weak_49 : decode cX7_weak 49 = .ok (.iload_n 1, 1) := by decide +kernel
theorem dX7_weak_50 : decode cX7_weak 50 = .ok (.iadd, 1) := by decide +kernel
theorem dX7_weak_51 : decode cX7_weak 51 = .ok (.iaload, 1) := by decide +kernel
theorem dX7_weak_52 : decode cX7_weak 52 = .ok (.istore_n 3, 1) := by decide +kernel
theorem dX7_weak_53 : decode cX7_weak 53 = .ok (.aload_n 0, 1) := by decide +kernel
theorem dX7_weak_54 : decode cX7_weak 54 = .ok (.getfield 7, 3) := by decide +kernel
theorem dX7_weak_57 : decode cX7_weak 57 = .ok (.sipush 222, 3) := by decide +kernel
theorem dX7_weak_60 : decode cX7_weak 60 = .ok (.iload_n 1, 1) := by decide +kernel
theorem dX7_weak_61 : decode cX7_weak 61 = .ok (.iadd, 1) := by decide +kernel
theorem dX7_weak_62 : decode cX7_weak 62 = .ok (.iload_n 2, 1) := by decide +kernel
theorem dX7_weak_63 : decode cX7_weak 63 = .ok (.iastore, 1) := by decide +kernel
theorem dX7_weak_64 : decode cX7_weak 64 = .ok (.iload_n 3, 1) := by decide +kernel
theorem dX7_weak_65 : decode cX7_weak 65 = .ok (.ireturn, 1) := by decide +kernel
theorem dX7_wouldGo_0 : decode cX7_wouldGo 0 = .ok (.aload_n 0, 1) := by decide +kernel
theorem dX7_wouldGo_1 : decode cX7_wouldGo 1 = .ok (.getfield 7, 3) := by decide +kernel
theorem dX7_wouldGo_4 : decode cX7_wouldGo 4 = .ok (.aload_n 0, 1) := by decide +kernel
theorem dX7_wouldGo_5 : decode cX7_wouldGo 5 = .ok (.getfield 19, 3) := by decide +kernel
theorem dX7_wouldGo_8 : decode cX7_wouldGo 8 = .ok (.invokestatic 138, 3) := by decide +kernel
theorem dX7_wouldGo_11 : decode cX7_wouldGo 11 = .ok (.aload_n 0, 1) := by decide +kernel
theorem dX7_wouldGo_12 : decode cX7_wouldGo 12 = .ok (.iconst 0, 1) := by decide +kernel
theorem dX7_wouldGo_13 : decode cX7_wouldGo 13 = .ok (.iconst 1, 1) := by decide +kernel
theorem dX7_wouldGo_14 : decode cX7_wouldGo 14 = .ok (.invokevirtual 126, 3) := by decide +kernel
theorem dX7_wouldGo_17 : decode cX7_wouldGo 17 = .ok (.istore_n 1, 1) := by decide +kernel
theorem dX7_wouldGo_18 : decode cX7_wouldGo 18 = .ok (.aload_n 0, 1) := by decide +kernel
theorem dX7_wouldGo_19 : decode cX7_wouldGo 19 = .ok (.invokevirtual 120, 3) := by decide +kernel
theorem dX7_wouldGo_22 : decode cX7_wouldGo 22 = .ok (.istore_n 2, 1) := by decide +kernel
theorem dX7_wouldGo_23 : decode cX7_wouldGo 23 = .ok (.iload_n 1, 1) := by decide +kernel
theorem dX7_wouldGo_24 : decode cX7_wouldGo 24 = .ok (.aload_n 0, 1) := by decide +kernel
theorem dX7_wouldGo_25 : decode cX7_wouldGo 25 = .ok (.iconst 0, 1) := by decide +kernel
theorem dX7_wouldGo_26 : decode cX7_wouldGo 26 = .ok (.iconst 1, 1) := by decide +kernel
theorem dX7_wouldGo_27 : decode cX7_wouldGo 27 = .ok (.invokevirtual 126, 3) := by decide +kernel
theorem dX7_wouldGo_30 : decode cX7_wouldGo 30 = .ok (.iconst (-1), 1) := by decide +kernel
theorem dX7_wouldGo_31 : decode cX7_wouldGo 31 = .ok (.ixor, 1) := by decide +kernel
theorem dX7_wouldGo_32 : decode cX7_wouldGo 32 = .ok (.iand, 1) := by decide +kernel
theorem dX7_wouldGo_33 : decode cX7_wouldGo 33 = .ok (.istore_n 3, 1) := by decide +kernel
theorem dX7_wouldGo_34 : decode cX7_wouldGo 34 = .ok (.aload_n 0, 1) := by decide +kernel
theorem dX7_wouldGo_35 : decode cX7_wouldGo 35 = .ok (.getfield 19, 3) := by decide +kernel
theorem dX7_wouldGo_38 : decode cX7_wouldGo 38 = .ok (.aload_n 0, 1) := by decide +kernel
theorem dX7_wouldGo_39 : decode cX7_wouldGo 39 = .ok (.getfield 7, 3) := by decide +kernel
theorem dX7_wouldGo_42 : decode cX7_wouldGo 42 = .ok (.invokestatic 138, 3) := by decide +kernel
theorem dX7_wouldGo_45 : decode cX7_wouldGo 45 = .ok (.iload_n 2, 1) := by decide +kernel
theorem dX7_wouldGo_46 : decode cX7_wouldGo 46 = .ok (.ifCond .ge 8, 3) := by decide +kernel
theorem dX7_wouldGo_49 : decode cX7_wouldGo 49 = .ok (.bipush (-14), 2) := by decide +kernel
theorem dX7_wouldGo_51 : decode cX7_wouldGo 51 = .ok (.goto 4, 3) := by decide +kernel
theorem dX7_wouldGo_54 : decode cX7_wouldGo 54 = .ok (.iload_n 3, 1) := by decide +kernel
theorem dX7_wouldGo_55 : decode cX7_wouldGo 55 = .ok (.ireturn, 1) := by decide +kernel
end
section
def f_X6_bit (x1 : Int32) (w : St) : Option (Int32 × St) := (if x1 < 0 then some (0, w) else (if x1 < 24 then some (1 <<< (x1 &&& 31), w) else some (0, w)))
set_option maxRecDepth 100000 in
set_option maxHeartbeats 4000000 in
theorem c_X6_bit {l : Launch} {D : va_G} {cI : ClassId × ClassId} {A : Nat → Prop} {wf : St → va_W} {x1 : Int32} {w : St} {o : Int32 × St} (hf : f_X6_bit x1 w = some o) : CTi l D cI A yX6_bit cX6_bit 1 (some .int) rm_X6_bit [.int x1] (wf w) o.1 (wf o.2) := by
  refine CTi.of (by decide +kernel) rfl (Nat.le_of_ble_eq_true rfl) ?_
  intro p e s m args below meth c X hr
  have X : gX p s m args meth c cX6_bit 1 RX6 D cI := X
  show G _ _ _ _ _ _ _ _ _ _ _ _ _ _ _ 0 [some (.int x1)] [] w
  unfold f_X6_bit at hf
  refine g_iload_n X (i := 0) dX6_bit_0 rfl rfl ?_
  refine g_if_lt X dX6_bit_1 (tgt := 16) (by decide) hf (fun c1 hf => ?_) (fun c1 hf => ?_)
  · refine g_iconst X dX6_bit_16 (v := 0) (by decide) ?_
    exact g_iret X hr dX6_bit_17 hf
  · refine g_iload_n X (i := 0) dX6_bit_4 rfl rfl ?_
    refine g_bipush X dX6_bit_5 (v := 24) (by decide) ?_
    refine g_icmp_ge X dX6_bit_7 (tgt := 16) (by decide) hf (fun c2 hf => ?_) (fun c2 hf => ?_)
    · refine g_iconst X dX6_bit_10 (v := 1) (by decide) ?_
      refine g_iload_n X (i := 0) dX6_bit_11 rfl rfl ?_
      refine g_ishl X dX6_bit_12 ?_
      refine g_goto X dX6_bit_13 (tgt := 17) (by decide) ?_
      exact g_iret X hr dX6_bit_17 hf
    · refine g_iconst X dX6_bit_16 (v := 0) (by decide) ?_
      exact g_iret X hr dX6_bit_17 hf
def f_X6_isIn (x1 x2 : Int32) (w : St) : Option (Int32 × St) := (if x1 < 0 then some (0, w) else (if x1 < x2 then some (1, w) else some (0, w)))
set_option maxRecDepth 100000 in
set_option maxHeartbeats 4000000 in
theorem c_X6_isIn {l : Launch} {D : va_G} {cI : ClassId × ClassId} {A : Nat → Prop} {wf : St → va_W} {x1 x2 : Int32} {w : St} {o : Int32 × St} (hf : f_X6_isIn x1 x2 w = some o) : CTi l D cI A yX6_isIn cX6_isIn 2 (some .boolean) rm_X6_isIn [.int x1, .int x2] (wf w) o.1 (wf o.2) := by
  refine CTi.of (by decide +kernel) rfl (Nat.le_of_ble_eq_true rfl) ?_
  intro p e s m args below meth c X hr
  have X : gX p s m args meth c cX6_isIn 2 RX6 D cI := X
  show G _ _ _ _ _ _ _ _ _ _ _ _ _ _ _ 0 [some (.int x1), some (.int x2)] [] w
  unfold f_X6_isIn at hf
  refine g_iload_n X (i := 0) dX6_isIn_0 rfl rfl ?_
  refine g_if_lt X dX6_isIn_1 (tgt := 13) (by decide) hf (fun c1 hf => ?_) (fun c1 hf => ?_)
  · refine g_iconst X dX6_isIn_13 (v := 0) (by decide) ?_
    exact g_zret X hr dX6_isIn_14 rfl hf
  · refine g_iload_n X (i := 0) dX6_isIn_4 rfl rfl ?_
    refine g_iload_n X (i := 1) dX6_isIn_5 rfl rfl ?_
    refine g_icmp_ge X dX6_isIn_6 (tgt := 13) (by decide) hf (fun c2 hf => ?_) (fun c2 hf => ?_)
    · refine g_iconst X dX6_isIn_9 (v := 1) (by decide) ?_
      refine g_goto X dX6_isIn_10 (tgt := 14) (by decide) ?_
      exact g_zret X hr dX6_isIn_14 rfl hf
    · refine g_iconst X dX6_isIn_13 (v := 0) (by decide) ?_
      exact g_zret X hr dX6_isIn_14 rfl hf
def f_X6_isError (x1 : Int32) (w : St) : Option (Int32 × St) := (if ((-11) : Int32) < x1 then some (0, w) else some (1, w))
set_option maxRecDepth 100000 in
set_option maxHeartbeats 4000000 in
theorem c_X6_isError {l : Launch} {D : va_G} {cI : ClassId × ClassId} {A : Nat → Prop} {wf : St → va_W} {x1 : Int32} {w : St} {o : Int32 × St} (hf : f_X6_isError x1 w = some o) : CTi l D cI A yX6_isError cX6_isError 1 (some .boolean) rm_X6_isError [.int x1] (wf w) o.1 (wf o.2) := by
  refine CTi.of (by decide +kernel) rfl (Nat.le_of_ble_eq_true rfl) ?_
  intro p e s m args below meth c X hr
  have X : gX p s m args meth c cX6_isError 1 RX6 D cI := X
  show G _ _ _ _ _ _ _ _ _ _ _ _ _ _ _ 0 [some (.int x1)] [] w
  unfold f_X6_isError at hf
  refine g_iload_n X (i := 0) dX6_isError_0 rfl rfl ?_
  refine g_bipush X dX6_isError_1 (v := (-11)) (by decide) ?_
  refine g_icmp_gt X dX6_isError_3 (tgt := 10) (by decide) hf (fun c1 hf => ?_) (fun c1 hf => ?_)
  · refine g_iconst X dX6_isError_10 (v := 0) (by decide) ?_
    exact g_zret X hr dX6_isError_11 rfl hf
  · refine g_iconst X dX6_isError_6 (v := 1) (by decide) ?_
    refine g_goto X dX6_isError_7 (tgt := 11) (by decide) ?_
    exact g_zret X hr dX6_isError_11 rfl hf
def f_X6_lowestOf_L6 : Nat → Int32 → Int32 → St → Option (Int32 × St)
  | 0, _, _, _ => none
  | n + 1, x0, x2, w => (if x2 < 24 then (f_X6_bit x2 w).bind fun o2 => (if (x0 &&& o2.1) = 0 then f_X6_lowestOf_L6 n x0 (x2 + 1) o2.2 else some (x2, o2.2)) else some ((-1), w))
def f_X6_lowestOf (x1 x2 : Int32) (w : St) : Option (Int32 × St) := f_X6_lowestOf_L6 BIG x1 (if x2 < 0 then 0 else x2) w
set_option maxRecDepth 100000 in
set_option maxHeartbeats 4000000 in
theorem gl_X6_lowestOf_L6 {p : Program} {l : Launch} {e : Env} {s : State} {m : MethodId} {args : Array Value} {below : List Frame} {meth : Method} {c : Code} {D : va_G} {A : Nat → Prop} {cI : ClassId × ClassId} {wf : St → va_W} {o : Int32 × St} (X : gX p s m args meth c cX6_lowestOf 3 RX6 D cI) (hr : meth.sig.returnType = some .int) (n : Nat) : ∀ {x0 x2 : Int32} {w : St}, f_X6_lowestOf_L6 n x0 x2 w = some o → G p l e rm_X6_lowestOf s m args below meth c D A 3 (MQ below (qcI D A o.1 (wf o.2)) args s 0 0 A) wf 6 [some (.int x0), none, some (.int x2)] [] w := by
  induction n with
  | zero => intro x0 x2 w hf; cases hf
  | succ n ih =>
    intro x0 x2 w hf
    rw [f_X6_lowestOf_L6] at hf
    refine g_iload_n X (i := 2) dX6_lowestOf_6 rfl rfl ?_
    refine g_bipush X dX6_lowestOf_7 (v := 24) (by decide) ?_
    refine g_icmp_ge X dX6_lowestOf_9 (tgt := 29) (by decide) hf (fun c1 hf => ?_) (fun c1 hf => ?_)
    · refine g_iload_n X (i := 0) dX6_lowestOf_12 rfl rfl ?_
      refine g_iload_n X (i := 2) dX6_lowestOf_13 rfl rfl ?_
      obtain ⟨o2, h3, hf⟩ := hfb hf
      refine g_Si X (As := [.int x2]) (rest := [.int x0]) (c_X6_bit (wf := wf) h3) dX6_lowestOf_14 ml_X6_134 yv_X6_bit rfl rfl ⟨Nat.le_of_ble_eq_true rfl, Nat.le_of_ble_eq_true rfl⟩ ⟨rfl, rfl⟩ (Nat.le_of_ble_eq_true rfl) ?_
      refine g_iand X dX6_lowestOf_17 ?_
      refine g_if_eq X dX6_lowestOf_18 (tgt := 23) (by decide) hf (fun c4 hf => ?_) (fun c4 hf => ?_)
      · refine g_iinc X (i := 2) (v := 1) dX6_lowestOf_23 rfl (by decide) (by decide) rfl ?_
        refine g_goto X dX6_lowestOf_26 (tgt := 6) (by decide) ?_
        exact ih hf
      · refine g_iload_n X (i := 2) dX6_lowestOf_21 rfl rfl ?_
        exact g_iret X hr dX6_lowestOf_22 hf
    · refine g_iconst X dX6_lowestOf_29 (v := (-1)) (by decide) ?_
      exact g_iret X hr dX6_lowestOf_30 hf
set_option maxRecDepth 100000 in
set_option maxHeartbeats 4000000 in
theorem c_X6_lowestOf {l : Launch} {D : va_G} {cI : ClassId × ClassId} {A : Nat → Prop} {wf : St → va_W} {x1 x2 : Int32} {w : St} {o : Int32 × St} (hf : f_X6_lowestOf x1 x2 w = some o) : CTi l D cI A yX6_lowestOf cX6_lowestOf 3 (some .int) rm_X6_lowestOf [.int x1, .int x2] (wf w) o.1 (wf o.2) := by
  refine CTi.of (by decide +kernel) rfl (Nat.le_of_ble_eq_true rfl) ?_
  intro p e s m args below meth c X hr
  have X : gX p s m args meth c cX6_lowestOf 3 RX6 D cI := X
  show G _ _ _ _ _ _ _ _ _ _ _ _ _ _ _ 0 [some (.int x1), some (.int x2), none] [] w
  unfold f_X6_lowestOf at hf
  refine g_iload_n X (i := 1) dX6_lowestOf_0 rfl rfl ?_
  refine g_iconst X dX6_lowestOf_1 (v := 0) (by decide) ?_
  refine g_max X dX6_lowestOf_2 ml_X6_181 st_max ini_max co_max ⟨Nat.le_of_ble_eq_true rfl, Nat.le_of_ble_eq_true rfl⟩ ?_
  refine g_istore_n X (i := 2) dX6_lowestOf_5 rfl (by decide) rfl ?_
  refine g_sub (losub (lo' := [some (.int x1), none, some (.int (if x2 < 0 then 0 else x2))]) ⟨rfl, rfl, trivial⟩) ?_
  exact gl_X6_lowestOf_L6 X hr BIG hf
def f_X0_isDigit (x1 : Int32) (w : St) : Option (Int32 × St) := (if x1 < 48 then some (0, w) else (if (57 : Int32) < x1 then some (0, w) else some (1, w)))
set_option maxRecDepth 100000 in
set_option maxHeartbeats 4000000 in
theorem c_X0_isDigit {l : Launch} {D : va_G} {cI : ClassId × ClassId} {A : Nat → Prop} {wf : St → va_W} {x1 : Int32} {w : St} {o : Int32 × St} (hf : f_X0_isDigit x1 w = some o) : CTi l D cI A yX0_isDigit cX0_isDigit 1 (some .boolean) rm_X0_isDigit [.int x1] (wf w) o.1 (wf o.2) := by
  refine CTi.of (by decide +kernel) rfl (Nat.le_of_ble_eq_true rfl) ?_
  intro p e s m args below meth c X hr
  have X : gX p s m args meth c cX0_isDigit 1 RX0 D cI := X
  show G _ _ _ _ _ _ _ _ _ _ _ _ _ _ _ 0 [some (.int x1)] [] w
  unfold f_X0_isDigit at hf
  refine g_iload_n X (i := 0) dX0_isDigit_0 rfl rfl ?_
  refine g_bipush X dX0_isDigit_1 (v := 48) (by decide) ?_
  refine g_icmp_lt X dX0_isDigit_3 (tgt := 16) (by decide) hf (fun c1 hf => ?_) (fun c1 hf => ?_)
  · refine g_iconst X dX0_isDigit_16 (v := 0) (by decide) ?_
    exact g_zret X hr dX0_isDigit_17 rfl hf
  · refine g_iload_n X (i := 0) dX0_isDigit_6 rfl rfl ?_
    refine g_bipush X dX0_isDigit_7 (v := 57) (by decide) ?_
    refine g_icmp_gt X dX0_isDigit_9 (tgt := 16) (by decide) hf (fun c2 hf => ?_) (fun c2 hf => ?_)
    · refine g_iconst X dX0_isDigit_16 (v := 0) (by decide) ?_
      exact g_zret X hr dX0_isDigit_17 rfl hf
    · refine g_iconst X dX0_isDigit_12 (v := 1) (by decide) ?_
      refine g_goto X dX0_isDigit_13 (tgt := 17) (by decide) ?_
      exact g_zret X hr dX0_isDigit_17 rfl hf
def f_J6_bitCount_0f7a4 (x1 : Int32) (w : St) : Option (Int32 × St) := some ((((((((x1 - (((x1.toUInt32 >>> ((1 : Int32).toUInt32 &&& Int32.toUInt32 31)).toInt32) &&& 1431655765)) &&& 858993459) + ((((x1 - (((x1.toUInt32 >>> ((1 : Int32).toUInt32 &&& Int32.toUInt32 31)).toInt32) &&& 1431655765)).toUInt32 >>> ((2 : Int32).toUInt32 &&& Int32.toUInt32 31)).toInt32) &&& 858993459)) + (((((x1 - (((x1.toUInt32 >>> ((1 : Int32).toUInt32 &&& Int32.toUInt32 31)).toInt32) &&& 1431655765)) &&& 858993459) + ((((x1 - (((x1.toUInt32 >>> ((1 : Int32).toUInt32 &&& Int32.toUInt32 31)).toInt32) &&& 1431655765)).toUInt32 >>> ((2 : Int32).toUInt32 &&& Int32.toUInt32 31)).toInt32) &&& 858993459)).toUInt32 >>> ((4 : Int32).toUInt32 &&& Int32.toUInt32 31)).toInt32)) &&& 252645135) + (((((((x1 - (((x1.toUInt32 >>> ((1 : Int32).toUInt32 &&& Int32.toUInt32 31)).toInt32) &&& 1431655765)) &&& 858993459) + ((((x1 - (((x1.toUInt32 >>> ((1 : Int32).toUInt32 &&& Int32.toUInt32 31)).toInt32) &&& 1431655765)).toUInt32 >>> ((2 : Int32).toUInt32 &&& Int32.toUInt32 31)).toInt32) &&& 858993459)) + (((((x1 - (((x1.toUInt32 >>> ((1 : Int32).toUInt32 &&& Int32.toUInt32 31)).toInt32) &&& 1431655765)) &&& 858993459) + ((((x1 - (((x1.toUInt32 >>> ((1 : Int32).toUInt32 &&& Int32.toUInt32 31)).toInt32) &&& 1431655765)).toUInt32 >>> ((2 : Int32).toUInt32 &&& Int32.toUInt32 31)).toInt32) &&& 858993459)).toUInt32 >>> ((4 : Int32).toUInt32 &&& Int32.toUInt32 31)).toInt32)) &&& 252645135).toUInt32 >>> ((8 : Int32).toUInt32 &&& Int32.toUInt32 31)).toInt32)) + ((((((((x1 - (((x1.toUInt32 >>> ((1 : Int32).toUInt32 &&& Int32.toUInt32 31)).toInt32) &&& 1431655765)) &&& 858993459) + ((((x1 - (((x1.toUInt32 >>> ((1 : Int32).toUInt32 &&& Int32.toUInt32 31)).toInt32) &&& 1431655765)).toUInt32 >>> ((2 : Int32).toUInt32 &&& Int32.toUInt32 31)).toInt32) &&& 858993459)) + (((((x1 - (((x1.toUInt32 >>> ((1 : Int32).toUInt32 &&& Int32.toUInt32 31)).toInt32) &&& 1431655765)) &&& 858993459) + ((((x1 - (((x1.toUInt32 >>> ((1 : Int32).toUInt32 &&& Int32.toUInt32 31)).toInt32) &&& 1431655765)).toUInt32 >>> ((2 : Int32).toUInt32 &&& Int32.toUInt32 31)).toInt32) &&& 858993459)).toUInt32 >>> ((4 : Int32).toUInt32 &&& Int32.toUInt32 31)).toInt32)) &&& 252645135) + (((((((x1 - (((x1.toUInt32 >>> ((1 : Int32).toUInt32 &&& Int32.toUInt32 31)).toInt32) &&& 1431655765)) &&& 858993459) + ((((x1 - (((x1.toUInt32 >>> ((1 : Int32).toUInt32 &&& Int32.toUInt32 31)).toInt32) &&& 1431655765)).toUInt32 >>> ((2 : Int32).toUInt32 &&& Int32.toUInt32 31)).toInt32) &&& 858993459)) + (((((x1 - (((x1.toUInt32 >>> ((1 : Int32).toUInt32 &&& Int32.toUInt32 31)).toInt32) &&& 1431655765)) &&& 858993459) + ((((x1 - (((x1.toUInt32 >>> ((1 : Int32).toUInt32 &&& Int32.toUInt32 31)).toInt32) &&& 1431655765)).toUInt32 >>> ((2 : Int32).toUInt32 &&& Int32.toUInt32 31)).toInt32) &&& 858993459)).toUInt32 >>> ((4 : Int32).toUInt32 &&& Int32.toUInt32 31)).toInt32)) &&& 252645135).toUInt32 >>> ((8 : Int32).toUInt32 &&& Int32.toUInt32 31)).toInt32)).toUInt32 >>> ((16 : Int32).toUInt32 &&& Int32.toUInt32 31)).toInt32)) &&& 63, w)
set_option maxRecDepth 100000 in
set_option maxHeartbeats 4000000 in
theorem c_J6_bitCount_0f7a4 {l : Launch} {D : va_G} {cI : ClassId × ClassId} {A : Nat → Prop} {wf : St → va_W} {x1 : Int32} {w : St} {o : Int32 × St} (hf : f_J6_bitCount_0f7a4 x1 w = some o) : CTi l D cI A yJ6_bitCount_0f7a4 cJ6_bitCount_0f7a4 1 (some .int) rm_J6_bitCount_0f7a4 [.int x1] (wf w) o.1 (wf o.2) := by
  refine CTi.of (by decide +kernel) rfl (Nat.le_of_ble_eq_true rfl) ?_
  intro p e s m args below meth c X hr
  have X : gX p s m args meth c cJ6_bitCount_0f7a4 1 RJ6 D cI := X
  show G _ _ _ _ _ _ _ _ _ _ _ _ _ _ _ 0 [some (.int x1)] [] w
  unfold f_J6_bitCount_0f7a4 at hf
  refine g_iload_n X (i := 0) dJ6_bitCount_0f7a4_0 rfl rfl ?_
  refine g_iload_n X (i := 0) dJ6_bitCount_0f7a4_1 rfl rfl ?_
  refine g_iconst X dJ6_bitCount_0f7a4_2 (v := 1) (by decide) ?_
  refine g_iushr X dJ6_bitCount_0f7a4_3 ?_
  refine g_ldcw X (v := 1431655765) dJ6_bitCount_0f7a4_4 (tb2 179 rfl) ?_
  refine g_iand X dJ6_bitCount_0f7a4_7 ?_
  refine g_isub X dJ6_bitCount_0f7a4_8 ?_
  refine g_istore_n X (i := 0) dJ6_bitCount_0f7a4_9 rfl (by decide) rfl ?_
  refine g_iload_n X (i := 0) dJ6_bitCount_0f7a4_10 rfl rfl ?_
  refine g_ldcw X (v := 858993459) dJ6_bitCount_0f7a4_11 (tb2 180 rfl) ?_
  refine g_iand X dJ6_bitCount_0f7a4_14 ?_
  refine g_iload_n X (i := 0) dJ6_bitCount_0f7a4_15 rfl rfl ?_
  refine g_iconst X dJ6_bitCount_0f7a4_16 (v := 2) (by decide) ?_
  refine g_iushr X dJ6_bitCount_0f7a4_17 ?_
  refine g_ldcw X (v := 858993459) dJ6_bitCount_0f7a4_18 (tb2 180 rfl) ?_
  refine g_iand X dJ6_bitCount_0f7a4_21 ?_
  refine g_iadd X dJ6_bitCount_0f7a4_22 ?_
  refine g_istore_n X (i := 0) dJ6_bitCount_0f7a4_23 rfl (by decide) rfl ?_
  refine g_iload_n X (i := 0) dJ6_bitCount_0f7a4_24 rfl rfl ?_
  refine g_iload_n X (i := 0) dJ6_bitCount_0f7a4_25 rfl rfl ?_
  refine g_iconst X dJ6_bitCount_0f7a4_26 (v := 4) (by decide) ?_
  refine g_iushr X dJ6_bitCount_0f7a4_27 ?_
  refine g_iadd X dJ6_bitCount_0f7a4_28 ?_
  refine g_ldcw X (v := 252645135) dJ6_bitCount_0f7a4_29 (tb2 181 rfl) ?_
  refine g_iand X dJ6_bitCount_0f7a4_32 ?_
  refine g_istore_n X (i := 0) dJ6_bitCount_0f7a4_33 rfl (by decide) rfl ?_
  refine g_iload_n X (i := 0) dJ6_bitCount_0f7a4_34 rfl rfl ?_
  refine g_iload_n X (i := 0) dJ6_bitCount_0f7a4_35 rfl rfl ?_
  refine g_bipush X dJ6_bitCount_0f7a4_36 (v := 8) (by decide) ?_
  refine g_iushr X dJ6_bitCount_0f7a4_38 ?_
  refine g_iadd X dJ6_bitCount_0f7a4_39 ?_
  refine g_istore_n X (i := 0) dJ6_bitCount_0f7a4_40 rfl (by decide) rfl ?_
  refine g_iload_n X (i := 0) dJ6_bitCount_0f7a4_41 rfl rfl ?_
  refine g_iload_n X (i := 0) dJ6_bitCount_0f7a4_42 rfl rfl ?_
  refine g_bipush X dJ6_bitCount_0f7a4_43 (v := 16) (by decide) ?_
  refine g_iushr X dJ6_bitCount_0f7a4_45 ?_
  refine g_iadd X dJ6_bitCount_0f7a4_46 ?_
  refine g_istore_n X (i := 0) dJ6_bitCount_0f7a4_47 rfl (by decide) rfl ?_
  refine g_iload_n X (i := 0) dJ6_bitCount_0f7a4_48 rfl rfl ?_
  refine g_bipush X dJ6_bitCount_0f7a4_49 (v := 63) (by decide) ?_
  refine g_iand X dJ6_bitCount_0f7a4_51 ?_
  exact g_iret X hr dJ6_bitCount_0f7a4_52 hf
def f_X7_in (x1 x2 x3 : Int32) (w : St) : Option (Int32 × St) := (if x1 < x2 then some (0, w) else (if x3 < x1 then some (0, w) else some (1, w)))
set_option maxRecDepth 100000 in
set_option maxHeartbeats 4000000 in
theorem c_X7_in {l : Launch} {D : va_G} {cI : ClassId × ClassId} {A : Nat → Prop} {wf : St → va_W} {x1 x2 x3 : Int32} {w : St} {o : Int32 × St} (hf : f_X7_in x1 x2 x3 w = some o) : CTi l D cI A yX7_in cX7_in 3 (some .boolean) rm_X7_in [.int x1, .int x2, .int x3] (wf w) o.1 (wf o.2) := by
  refine CTi.of (by decide +kernel) rfl (Nat.le_of_ble_eq_true rfl) ?_
  intro p e s m args below meth c X hr
  have X : gX p s m args meth c cX7_in 3 RX7 D cI := X
  show G _ _ _ _ _ _ _ _ _ _ _ _ _ _ _ 0 [some (.int x1), some (.int x2), some (.int x3)] [] w
  unfold f_X7_in at hf
  refine g_iload_n X (i := 0) dX7_in_0 rfl rfl ?_
  refine g_iload_n X (i := 1) dX7_in_1 rfl rfl ?_
  refine g_icmp_lt X dX7_in_2 (tgt := 14) (by decide) hf (fun c1 hf => ?_) (fun c1 hf => ?_)
  · refine g_iconst X dX7_in_14 (v := 0) (by decide) ?_
    exact g_zret X hr dX7_in_15 rfl hf
  · refine g_iload_n X (i := 0) dX7_in_5 rfl rfl ?_
    refine g_iload_n X (i := 2) dX7_in_6 rfl rfl ?_
    refine g_icmp_gt X dX7_in_7 (tgt := 14) (by decide) hf (fun c2 hf => ?_) (fun c2 hf => ?_)
    · refine g_iconst X dX7_in_14 (v := 0) (by decide) ?_
      exact g_zret X hr dX7_in_15 rfl hf
    · refine g_iconst X dX7_in_10 (v := 1) (by decide) ?_
      refine g_goto X dX7_in_11 (tgt := 15) (by decide) ?_
      exact g_zret X hr dX7_in_15 rfl hf
def f_X7_isRoot (x1 : Int32) (w : St) : Option (Int32 × St) := (f_X7_in x1 0 3 w).bind fun o1 => if o1.1 = 0 ∨ o1.1 = 1 then some (o1.1, o1.2) else none
set_option maxRecDepth 100000 in
set_option maxHeartbeats 4000000 in
theorem c_X7_isRoot {l : Launch} {D : va_G} {cI : ClassId × ClassId} {A : Nat → Prop} {wf : St → va_W} {x1 : Int32} {w : St} {o : Int32 × St} (hf : f_X7_isRoot x1 w = some o) : CTi l D cI A yX7_isRoot cX7_isRoot 1 (some .boolean) rm_X7_isRoot [.int x1] (wf w) o.1 (wf o.2) := by
  refine CTi.of (by decide +kernel) rfl (Nat.le_of_ble_eq_true rfl) ?_
  intro p e s m args below meth c X hr
  have X : gX p s m args meth c cX7_isRoot 1 RX7 D cI := X
  show G _ _ _ _ _ _ _ _ _ _ _ _ _ _ _ 0 [some (.int x1)] [] w
  unfold f_X7_isRoot at hf
  refine g_iload_n X (i := 0) dX7_isRoot_0 rfl rfl ?_
  refine g_iconst X dX7_isRoot_1 (v := 0) (by decide) ?_
  refine g_iconst X dX7_isRoot_2 (v := 3) (by decide) ?_
  obtain ⟨o1, h2, hf⟩ := hfb hf
  refine g_Si X (As := [.int x1, .int 0, .int 3]) (rest := []) (c_X7_in (wf := wf) h2) dX7_isRoot_3 ml_X7_39 yv_X7_in rfl rfl ⟨Nat.le_of_ble_eq_true rfl, Nat.le_of_ble_eq_true rfl⟩ ⟨rfl, rfl⟩ (Nat.le_of_ble_eq_true rfl) ?_
  obtain ⟨hz3, hf⟩ := hfg hf
  exact g_zret X hr dX7_isRoot_6 (zb hz3) hf
def f_X7_ones_L4 : Nat → Int32 → Int32 → Int32 → St → Option (Int32 × St)
  | 0, _, _, _, _ => none
  | n + 1, x0, x1, x2, w => (if x2 < 24 then f_X7_ones_L4 n x0 (x1 + ((x0 >>> (x2 &&& 31)) &&& 1)) (x2 + 1) w else some (x1, w))
def f_X7_ones (x1 : Int32) (w : St) : Option (Int32 × St) := (f_X7_ones_L4 BIG x1 0 0 w).bind fun o2 => some (o2.1, o2.2)
set_option maxRecDepth 100000 in
set_option maxHeartbeats 4000000 in
theorem gl_X7_ones_L4 {p : Program} {l : Launch} {e : Env} {s : State} {m : MethodId} {args : Array Value} {below : List Frame} {meth : Method} {c : Code} {D : va_G} {A : Nat → Prop} {cI : ClassId × ClassId} {wf : St → va_W} {Q : State → Prop} {o : Int32 × St} (X : gX p s m args meth c cX7_ones 3 RX7 D cI) (n : Nat) : ∀ {x0 x1 x2 : Int32} {w : St}, f_X7_ones_L4 n x0 x1 x2 w = some o → G p l e rm_X7_ones s m args below meth c D A 3 Q wf 24 [none, some (.int o.1), none] [] o.2 → G p l e rm_X7_ones s m args below meth c D A 3 Q wf 4 [some (.int x0), some (.int x1), some (.int x2)] [] w := by
  induction n with
  | zero => intro x0 x1 x2 w hf; cases hf
  | succ n ih =>
    intro x0 x1 x2 w hf k
    rw [f_X7_ones_L4] at hf
    refine g_iload_n X (i := 2) dX7_ones_4 rfl rfl ?_
    refine g_bipush X dX7_ones_5 (v := 24) (by decide) ?_
    refine g_icmp_ge X dX7_ones_7 (tgt := 24) (by decide) hf (fun c1 hf => ?_) (fun c1 hf => ?_)
    · refine g_iload_n X (i := 1) dX7_ones_10 rfl rfl ?_
      refine g_iload_n X (i := 0) dX7_ones_11 rfl rfl ?_
      refine g_iload_n X (i := 2) dX7_ones_12 rfl rfl ?_
      refine g_ishr X dX7_ones_13 ?_
      refine g_iconst X dX7_ones_14 (v := 1) (by decide) ?_
      refine g_iand X dX7_ones_15 ?_
      refine g_iadd X dX7_ones_16 ?_
      refine g_istore_n X (i := 1) dX7_ones_17 rfl (by decide) rfl ?_
      refine g_iinc X (i := 2) (v := 1) dX7_ones_18 rfl (by decide) (by decide) rfl ?_
      refine g_goto X dX7_ones_21 (tgt := 4) (by decide) ?_
      exact ih hf k
    · obtain rfl := Option.some.inj hf
      refine g_sub (losub (lo' := [none, some (.int x1), none]) ⟨rfl, trivial⟩) ?_
      exact k
set_option maxRecDepth 100000 in
set_option maxHeartbeats 4000000 in
theorem c_X7_ones {l : Launch} {D : va_G} {cI : ClassId × ClassId} {A : Nat → Prop} {wf : St → va_W} {x1 : Int32} {w : St} {o : Int32 × St} (hf : f_X7_ones x1 w = some o) : CTi l D cI A yX7_ones cX7_ones 3 (some .int) rm_X7_ones [.int x1] (wf w) o.1 (wf o.2) := by
  refine CTi.of (by decide +kernel) rfl (Nat.le_of_ble_eq_true rfl) ?_
  intro p e s m args below meth c X hr
  have X : gX p s m args meth c cX7_ones 3 RX7 D cI := X
  show G _ _ _ _ _ _ _ _ _ _ _ _ _ _ _ 0 [some (.int x1), none, none] [] w
  unfold f_X7_ones at hf
  refine g_iconst X dX7_ones_0 (v := 0) (by decide) ?_
  refine g_istore_n X (i := 1) dX7_ones_1 rfl (by decide) rfl ?_
  refine g_iconst X dX7_ones_2 (v := 0) (by decide) ?_
  refine g_istore_n X (i := 2) dX7_ones_3 rfl (by decide) rfl ?_
  obtain ⟨o2, h3, hf⟩ := hfb hf
  refine gl_X7_ones_L4 X BIG h3 ?_
  refine g_iload_n X (i := 1) dX7_ones_24 rfl rfl ?_
  exact g_iret X hr dX7_ones_25 hf
end
