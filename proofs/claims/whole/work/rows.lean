section
/-- a private method of a class that the tables say can be made, by its rows of tables_1 -/
def lw_okq (q : MethodName × Nat) : Prop := (q.1.cls ≠ "java/lang/invoke/MethodHandle" ∧ q.1.cls ≠ "java/lang/invoke/VarHandle") ∧ Cond.instantiable q.1.cls q.2 ∈ tables_1 ∧ Cond.privateMethod q.1 ∈ tables_1 ∧ Cond.instanceMethod q.1 ∈ tables_1
theorem lw_p0 : lw_okq (⟨"ReachedHeap$History", "stateAt", "(I)LReachedHeap$State;"⟩, 3) := ⟨⟨by decide +kernel, by decide +kernel⟩, List.mem_of_getElem? (i := 148) (by decide +kernel), List.mem_of_getElem? (i := 238) (by decide +kernel), List.mem_of_getElem? (i := 239) (by decide +kernel)⟩
theorem lw_p1 : lw_okq (⟨"ReachedHeap$State", "referRoot", "(II)V"⟩, 6) := ⟨⟨by decide +kernel, by decide +kernel⟩, List.mem_of_getElem? (i := 22) (by decide +kernel), List.mem_of_getElem? (i := 297) (by decide +kernel), List.mem_of_getElem? (i := 298) (by decide +kernel)⟩
theorem lw_p2 : lw_okq (⟨"ReachedHeap$State", "takeCare", "(ZII)V"⟩, 6) := ⟨⟨by decide +kernel, by decide +kernel⟩, List.mem_of_getElem? (i := 22) (by decide +kernel), List.mem_of_getElem? (i := 301) (by decide +kernel), List.mem_of_getElem? (i := 302) (by decide +kernel)⟩
theorem lw_p3 : lw_okq (⟨"ReachedHeap$State", "shadeIfCareIsNeeded", "(I)V"⟩, 6) := ⟨⟨by decide +kernel, by decide +kernel⟩, List.mem_of_getElem? (i := 22) (by decide +kernel), List.mem_of_getElem? (i := 405) (by decide +kernel), List.mem_of_getElem? (i := 406) (by decide +kernel)⟩
theorem lw_p4 : lw_okq (⟨"ReachedHeap$Search", "sweep", "(LReachedHeap$Graph;)V"⟩, 9) := ⟨⟨by decide +kernel, by decide +kernel⟩, List.mem_of_getElem? (i := 81) (by decide +kernel), List.mem_of_getElem? (i := 470) (by decide +kernel), List.mem_of_getElem? (i := 471) (by decide +kernel)⟩
theorem lw_p5 : lw_okq (⟨"ReachedHeap$Search", "markFirst", "(LReachedHeap$Graph;)V"⟩, 9) := ⟨⟨by decide +kernel, by decide +kernel⟩, List.mem_of_getElem? (i := 81) (by decide +kernel), List.mem_of_getElem? (i := 487) (by decide +kernel), List.mem_of_getElem? (i := 488) (by decide +kernel)⟩
theorem lw_p6 : lw_okq (⟨"ReachedHeap$Search", "findToFinish", "(LReachedHeap$Graph;)V"⟩, 9) := ⟨⟨by decide +kernel, by decide +kernel⟩, List.mem_of_getElem? (i := 81) (by decide +kernel), List.mem_of_getElem? (i := 497) (by decide +kernel), List.mem_of_getElem? (i := 498) (by decide +kernel)⟩
theorem lw_p7 : lw_okq (⟨"ReachedHeap$Commands", "readCommand", "()Z"⟩, 11) := ⟨⟨by decide +kernel, by decide +kernel⟩, List.mem_of_getElem? (i := 168) (by decide +kernel), List.mem_of_getElem? (i := 646) (by decide +kernel), List.mem_of_getElem? (i := 647) (by decide +kernel)⟩
theorem lw_p8 : lw_okq (⟨"ReachedHeap$Commands", "signAt", "(I)I"⟩, 11) := ⟨⟨by decide +kernel, by decide +kernel⟩, List.mem_of_getElem? (i := 168) (by decide +kernel), List.mem_of_getElem? (i := 650) (by decide +kernel), List.mem_of_getElem? (i := 651) (by decide +kernel)⟩
theorem lw_p9 : lw_okq (⟨"ReachedHeap$Commands", "read", "(I)Z"⟩, 11) := ⟨⟨by decide +kernel, by decide +kernel⟩, List.mem_of_getElem? (i := 168) (by decide +kernel), List.mem_of_getElem? (i := 654) (by decide +kernel), List.mem_of_getElem? (i := 655) (by decide +kernel)⟩
theorem lw_p10 : lw_okq (⟨"ReachedHeap$Commands", "readNumber", "()I"⟩, 11) := ⟨⟨by decide +kernel, by decide +kernel⟩, List.mem_of_getElem? (i := 168) (by decide +kernel), List.mem_of_getElem? (i := 658) (by decide +kernel), List.mem_of_getElem? (i := 659) (by decide +kernel)⟩
theorem lw_p11 : lw_okq (⟨"ReachedHeap$Commands", "readTarget", "()I"⟩, 11) := ⟨⟨by decide +kernel, by decide +kernel⟩, List.mem_of_getElem? (i := 168) (by decide +kernel), List.mem_of_getElem? (i := 665) (by decide +kernel), List.mem_of_getElem? (i := 666) (by decide +kernel)⟩
theorem lw_p12 : lw_okq (⟨"ReachedHeapModel", "lowestFree", "()I"⟩, 15) := ⟨⟨by decide +kernel, by decide +kernel⟩, List.mem_of_getElem? (i := 683) (by decide +kernel), List.mem_of_getElem? (i := 745) (by decide +kernel), List.mem_of_getElem? (i := 746) (by decide +kernel)⟩
theorem lw_p13 : lw_okq (⟨"ReachedHeapModel", "of", "(II)I"⟩, 15) := ⟨⟨by decide +kernel, by decide +kernel⟩, List.mem_of_getElem? (i := 683) (by decide +kernel), List.mem_of_getElem? (i := 749) (by decide +kernel), List.mem_of_getElem? (i := 750) (by decide +kernel)⟩
theorem lw_p14 : lw_okq (⟨"ReachedHeapModel", "changes", "()V"⟩, 15) := ⟨⟨by decide +kernel, by decide +kernel⟩, List.mem_of_getElem? (i := 683) (by decide +kernel), List.mem_of_getElem? (i := 753) (by decide +kernel), List.mem_of_getElem? (i := 754) (by decide +kernel)⟩
theorem lw_p15 : lw_okq (⟨"ReachedHeapModel", "sets", "(III)V"⟩, 15) := ⟨⟨by decide +kernel, by decide +kernel⟩, List.mem_of_getElem? (i := 683) (by decide +kernel), List.mem_of_getElem? (i := 757) (by decide +kernel), List.mem_of_getElem? (i := 758) (by decide +kernel)⟩
def lw_privs_1 : List (MethodName × Nat) := [(⟨"ReachedHeap$History", "stateAt", "(I)LReachedHeap$State;"⟩, 3), (⟨"ReachedHeap$State", "referRoot", "(II)V"⟩, 6), (⟨"ReachedHeap$State", "takeCare", "(ZII)V"⟩, 6), (⟨"ReachedHeap$State", "shadeIfCareIsNeeded", "(I)V"⟩, 6), (⟨"ReachedHeap$Search", "sweep", "(LReachedHeap$Graph;)V"⟩, 9), (⟨"ReachedHeap$Search", "markFirst", "(LReachedHeap$Graph;)V"⟩, 9), (⟨"ReachedHeap$Search", "findToFinish", "(LReachedHeap$Graph;)V"⟩, 9), (⟨"ReachedHeap$Commands", "readCommand", "()Z"⟩, 11), (⟨"ReachedHeap$Commands", "signAt", "(I)I"⟩, 11), (⟨"ReachedHeap$Commands", "read", "(I)Z"⟩, 11), (⟨"ReachedHeap$Commands", "readNumber", "()I"⟩, 11), (⟨"ReachedHeap$Commands", "readTarget", "()I"⟩, 11), (⟨"ReachedHeapModel", "lowestFree", "()I"⟩, 15), (⟨"ReachedHeapModel", "of", "(II)I"⟩, 15), (⟨"ReachedHeapModel", "changes", "()V"⟩, 15), (⟨"ReachedHeapModel", "sets", "(III)V"⟩, 15)]
theorem lw_r1 : ∀ q ∈ lw_privs_1, lw_okq q := List.forall_mem_cons.mpr ⟨lw_p0, List.forall_mem_cons.mpr ⟨lw_p1, List.forall_mem_cons.mpr ⟨lw_p2, List.forall_mem_cons.mpr ⟨lw_p3, List.forall_mem_cons.mpr ⟨lw_p4, List.forall_mem_cons.mpr ⟨lw_p5, List.forall_mem_cons.mpr ⟨lw_p6, List.forall_mem_cons.mpr ⟨lw_p7, List.forall_mem_cons.mpr ⟨lw_p8, List.forall_mem_cons.mpr ⟨lw_p9, List.forall_mem_cons.mpr ⟨lw_p10, List.forall_mem_cons.mpr ⟨lw_p11, List.forall_mem_cons.mpr ⟨lw_p12, List.forall_mem_cons.mpr ⟨lw_p13, List.forall_mem_cons.mpr ⟨lw_p14, List.forall_mem_cons.mpr ⟨lw_p15, fun _ h => absurd h List.not_mem_nil⟩⟩⟩⟩⟩⟩⟩⟩⟩⟩⟩⟩⟩⟩⟩⟩
theorem lw_p16 : lw_okq (⟨"ReachedHeapModel", "isMarking", "()Z"⟩, 15) := ⟨⟨by decide +kernel, by decide +kernel⟩, List.mem_of_getElem? (i := 683) (by decide +kernel), List.mem_of_getElem? (i := 761) (by decide +kernel), List.mem_of_getElem? (i := 762) (by decide +kernel)⟩
theorem lw_p17 : lw_okq (⟨"ReachedHeapModel", "writesRoot", "(II)I"⟩, 15) := ⟨⟨by decide +kernel, by decide +kernel⟩, List.mem_of_getElem? (i := 683) (by decide +kernel), List.mem_of_getElem? (i := 765) (by decide +kernel), List.mem_of_getElem? (i := 766) (by decide +kernel)⟩
theorem lw_p18 : lw_okq (⟨"ReachedHeapModel", "cares", "(IIZ)V"⟩, 15) := ⟨⟨by decide +kernel, by decide +kernel⟩, List.mem_of_getElem? (i := 683) (by decide +kernel), List.mem_of_getElem? (i := 769) (by decide +kernel), List.mem_of_getElem? (i := 770) (by decide +kernel)⟩
theorem lw_p19 : lw_okq (⟨"ReachedHeapModel", "shades", "(I)V"⟩, 15) := ⟨⟨by decide +kernel, by decide +kernel⟩, List.mem_of_getElem? (i := 683) (by decide +kernel), List.mem_of_getElem? (i := 773) (by decide +kernel), List.mem_of_getElem? (i := 774) (by decide +kernel)⟩
theorem lw_p20 : lw_okq (⟨"ReachedHeapModel", "isObject", "(I)Z"⟩, 15) := ⟨⟨by decide +kernel, by decide +kernel⟩, List.mem_of_getElem? (i := 683) (by decide +kernel), List.mem_of_getElem? (i := 781) (by decide +kernel), List.mem_of_getElem? (i := 782) (by decide +kernel)⟩
theorem lw_p21 : lw_okq (⟨"ReachedHeapModel", "isReached", "(I)Z"⟩, 15) := ⟨⟨by decide +kernel, by decide +kernel⟩, List.mem_of_getElem? (i := 683) (by decide +kernel), List.mem_of_getElem? (i := 785) (by decide +kernel), List.mem_of_getElem? (i := 786) (by decide +kernel)⟩
theorem lw_p22 : lw_okq (⟨"ReachedHeapModel", "reached", "()I"⟩, 15) := ⟨⟨by decide +kernel, by decide +kernel⟩, List.mem_of_getElem? (i := 683) (by decide +kernel), List.mem_of_getElem? (i := 789) (by decide +kernel), List.mem_of_getElem? (i := 790) (by decide +kernel)⟩
theorem lw_p23 : lw_okq (⟨"ReachedHeapModel", "rooted", "(I)I"⟩, 15) := ⟨⟨by decide +kernel, by decide +kernel⟩, List.mem_of_getElem? (i := 683) (by decide +kernel), List.mem_of_getElem? (i := 793) (by decide +kernel), List.mem_of_getElem? (i := 794) (by decide +kernel)⟩
theorem lw_p24 : lw_okq (⟨"ReachedHeapModel", "spreads", "(II)I"⟩, 15) := ⟨⟨by decide +kernel, by decide +kernel⟩, List.mem_of_getElem? (i := 683) (by decide +kernel), List.mem_of_getElem? (i := 797) (by decide +kernel), List.mem_of_getElem? (i := 798) (by decide +kernel)⟩
theorem lw_p25 : lw_okq (⟨"ReachedHeapModel", "wanting", "()I"⟩, 15) := ⟨⟨by decide +kernel, by decide +kernel⟩, List.mem_of_getElem? (i := 683) (by decide +kernel), List.mem_of_getElem? (i := 817) (by decide +kernel), List.mem_of_getElem? (i := 818) (by decide +kernel)⟩
theorem lw_p26 : lw_okq (⟨"ReachedHeapModel", "takes", "(I)I"⟩, 15) := ⟨⟨by decide +kernel, by decide +kernel⟩, List.mem_of_getElem? (i := 683) (by decide +kernel), List.mem_of_getElem? (i := 825) (by decide +kernel), List.mem_of_getElem? (i := 826) (by decide +kernel)⟩
theorem lw_p27 : lw_okq (⟨"ReachedHeapModel", "begins", "()V"⟩, 15) := ⟨⟨by decide +kernel, by decide +kernel⟩, List.mem_of_getElem? (i := 683) (by decide +kernel), List.mem_of_getElem? (i := 833) (by decide +kernel), List.mem_of_getElem? (i := 834) (by decide +kernel)⟩
theorem lw_p28 : lw_okq (⟨"ReachedHeapModel", "steps", "()V"⟩, 15) := ⟨⟨by decide +kernel, by decide +kernel⟩, List.mem_of_getElem? (i := 683) (by decide +kernel), List.mem_of_getElem? (i := 841) (by decide +kernel), List.mem_of_getElem? (i := 842) (by decide +kernel)⟩
theorem lw_p29 : lw_okq (⟨"ReachedHeapModel", "sweeps", "()V"⟩, 15) := ⟨⟨by decide +kernel, by decide +kernel⟩, List.mem_of_getElem? (i := 683) (by decide +kernel), List.mem_of_getElem? (i := 845) (by decide +kernel), List.mem_of_getElem? (i := 846) (by decide +kernel)⟩
theorem lw_p30 : lw_okq (⟨"ReachedHeapModel", "letsGo", "(I)V"⟩, 15) := ⟨⟨by decide +kernel, by decide +kernel⟩, List.mem_of_getElem? (i := 683) (by decide +kernel), List.mem_of_getElem? (i := 849) (by decide +kernel), List.mem_of_getElem? (i := 850) (by decide +kernel)⟩
theorem lw_p31 : lw_okq (⟨"ReachedHeapModel", "blackens", "()V"⟩, 15) := ⟨⟨by decide +kernel, by decide +kernel⟩, List.mem_of_getElem? (i := 683) (by decide +kernel), List.mem_of_getElem? (i := 853) (by decide +kernel), List.mem_of_getElem? (i := 854) (by decide +kernel)⟩
def lw_privs_2 : List (MethodName × Nat) := [(⟨"ReachedHeapModel", "isMarking", "()Z"⟩, 15), (⟨"ReachedHeapModel", "writesRoot", "(II)I"⟩, 15), (⟨"ReachedHeapModel", "cares", "(IIZ)V"⟩, 15), (⟨"ReachedHeapModel", "shades", "(I)V"⟩, 15), (⟨"ReachedHeapModel", "isObject", "(I)Z"⟩, 15), (⟨"ReachedHeapModel", "isReached", "(I)Z"⟩, 15), (⟨"ReachedHeapModel", "reached", "()I"⟩, 15), (⟨"ReachedHeapModel", "rooted", "(I)I"⟩, 15), (⟨"ReachedHeapModel", "spreads", "(II)I"⟩, 15), (⟨"ReachedHeapModel", "wanting", "()I"⟩, 15), (⟨"ReachedHeapModel", "takes", "(I)I"⟩, 15), (⟨"ReachedHeapModel", "begins", "()V"⟩, 15), (⟨"ReachedHeapModel", "steps", "()V"⟩, 15), (⟨"ReachedHeapModel", "sweeps", "()V"⟩, 15), (⟨"ReachedHeapModel", "letsGo", "(I)V"⟩, 15), (⟨"ReachedHeapModel", "blackens", "()V"⟩, 15)]
theorem lw_r2 : ∀ q ∈ lw_privs_2, lw_okq q := List.forall_mem_cons.mpr ⟨lw_p16, List.forall_mem_cons.mpr ⟨lw_p17, List.forall_mem_cons.mpr ⟨lw_p18, List.forall_mem_cons.mpr ⟨lw_p19, List.forall_mem_cons.mpr ⟨lw_p20, List.forall_mem_cons.mpr ⟨lw_p21, List.forall_mem_cons.mpr ⟨lw_p22, List.forall_mem_cons.mpr ⟨lw_p23, List.forall_mem_cons.mpr ⟨lw_p24, List.forall_mem_cons.mpr ⟨lw_p25, List.forall_mem_cons.mpr ⟨lw_p26, List.forall_mem_cons.mpr ⟨lw_p27, List.forall_mem_cons.mpr ⟨lw_p28, List.forall_mem_cons.mpr ⟨lw_p29, List.forall_mem_cons.mpr ⟨lw_p30, List.forall_mem_cons.mpr ⟨lw_p31, fun _ h => absurd h List.not_mem_nil⟩⟩⟩⟩⟩⟩⟩⟩⟩⟩⟩⟩⟩⟩⟩⟩
theorem lw_p32 : lw_okq (⟨"ReachedHeapModel", "clears", "()V"⟩, 15) := ⟨⟨by decide +kernel, by decide +kernel⟩, List.mem_of_getElem? (i := 683) (by decide +kernel), List.mem_of_getElem? (i := 857) (by decide +kernel), List.mem_of_getElem? (i := 858) (by decide +kernel)⟩
theorem lw_p33 : lw_okq (⟨"ReachedHeapModel", "looksForFinish", "()V"⟩, 15) := ⟨⟨by decide +kernel, by decide +kernel⟩, List.mem_of_getElem? (i := 683) (by decide +kernel), List.mem_of_getElem? (i := 861) (by decide +kernel), List.mem_of_getElem? (i := 862) (by decide +kernel)⟩
theorem lw_p34 : lw_okq (⟨"ReachedHeapModel", "doesAll", "()I"⟩, 15) := ⟨⟨by decide +kernel, by decide +kernel⟩, List.mem_of_getElem? (i := 683) (by decide +kernel), List.mem_of_getElem? (i := 869) (by decide +kernel), List.mem_of_getElem? (i := 870) (by decide +kernel)⟩
theorem lw_p35 : lw_okq (⟨"ReachedHeapModel", "placeIn", "(I)I"⟩, 15) := ⟨⟨by decide +kernel, by decide +kernel⟩, List.mem_of_getElem? (i := 683) (by decide +kernel), List.mem_of_getElem? (i := 881) (by decide +kernel), List.mem_of_getElem? (i := 882) (by decide +kernel)⟩
theorem lw_p36 : lw_okq (⟨"ReachedHeapModel", "those", "(II)I"⟩, 15) := ⟨⟨by decide +kernel, by decide +kernel⟩, List.mem_of_getElem? (i := 683) (by decide +kernel), List.mem_of_getElem? (i := 897) (by decide +kernel), List.mem_of_getElem? (i := 898) (by decide +kernel)⟩
theorem lw_p37 : lw_okq (⟨"ReachedHeapModel", "plays", "()I"⟩, 15) := ⟨⟨by decide +kernel, by decide +kernel⟩, List.mem_of_getElem? (i := 683) (by decide +kernel), List.mem_of_getElem? (i := 952) (by decide +kernel), List.mem_of_getElem? (i := 953) (by decide +kernel)⟩
theorem lw_p38 : lw_okq (⟨"ReachedHeapModel", "reads", "()Z"⟩, 15) := ⟨⟨by decide +kernel, by decide +kernel⟩, List.mem_of_getElem? (i := 683) (by decide +kernel), List.mem_of_getElem? (i := 956) (by decide +kernel), List.mem_of_getElem? (i := 957) (by decide +kernel)⟩
theorem lw_p39 : lw_okq (⟨"ReachedHeapModel", "sign", "(I)Z"⟩, 15) := ⟨⟨by decide +kernel, by decide +kernel⟩, List.mem_of_getElem? (i := 683) (by decide +kernel), List.mem_of_getElem? (i := 960) (by decide +kernel), List.mem_of_getElem? (i := 961) (by decide +kernel)⟩
theorem lw_p40 : lw_okq (⟨"ReachedHeapModel", "isAt", "(II)Z"⟩, 15) := ⟨⟨by decide +kernel, by decide +kernel⟩, List.mem_of_getElem? (i := 683) (by decide +kernel), List.mem_of_getElem? (i := 964) (by decide +kernel), List.mem_of_getElem? (i := 965) (by decide +kernel)⟩
theorem lw_p41 : lw_okq (⟨"ReachedHeapModel", "number", "(I)Z"⟩, 15) := ⟨⟨by decide +kernel, by decide +kernel⟩, List.mem_of_getElem? (i := 683) (by decide +kernel), List.mem_of_getElem? (i := 968) (by decide +kernel), List.mem_of_getElem? (i := 969) (by decide +kernel)⟩
theorem lw_p42 : lw_okq (⟨"ReachedHeapModel", "target", "(I)Z"⟩, 15) := ⟨⟨by decide +kernel, by decide +kernel⟩, List.mem_of_getElem? (i := 683) (by decide +kernel), List.mem_of_getElem? (i := 972) (by decide +kernel), List.mem_of_getElem? (i := 973) (by decide +kernel)⟩
theorem lw_p43 : lw_okq (⟨"ReachedHeapModel", "calls", "()I"⟩, 15) := ⟨⟨by decide +kernel, by decide +kernel⟩, List.mem_of_getElem? (i := 683) (by decide +kernel), List.mem_of_getElem? (i := 976) (by decide +kernel), List.mem_of_getElem? (i := 977) (by decide +kernel)⟩
def lw_privs_3 : List (MethodName × Nat) := [(⟨"ReachedHeapModel", "clears", "()V"⟩, 15), (⟨"ReachedHeapModel", "looksForFinish", "()V"⟩, 15), (⟨"ReachedHeapModel", "doesAll", "()I"⟩, 15), (⟨"ReachedHeapModel", "placeIn", "(I)I"⟩, 15), (⟨"ReachedHeapModel", "those", "(II)I"⟩, 15), (⟨"ReachedHeapModel", "plays", "()I"⟩, 15), (⟨"ReachedHeapModel", "reads", "()Z"⟩, 15), (⟨"ReachedHeapModel", "sign", "(I)Z"⟩, 15), (⟨"ReachedHeapModel", "isAt", "(II)Z"⟩, 15), (⟨"ReachedHeapModel", "number", "(I)Z"⟩, 15), (⟨"ReachedHeapModel", "target", "(I)Z"⟩, 15), (⟨"ReachedHeapModel", "calls", "()I"⟩, 15)]
theorem lw_r3 : ∀ q ∈ lw_privs_3, lw_okq q := List.forall_mem_cons.mpr ⟨lw_p32, List.forall_mem_cons.mpr ⟨lw_p33, List.forall_mem_cons.mpr ⟨lw_p34, List.forall_mem_cons.mpr ⟨lw_p35, List.forall_mem_cons.mpr ⟨lw_p36, List.forall_mem_cons.mpr ⟨lw_p37, List.forall_mem_cons.mpr ⟨lw_p38, List.forall_mem_cons.mpr ⟨lw_p39, List.forall_mem_cons.mpr ⟨lw_p40, List.forall_mem_cons.mpr ⟨lw_p41, List.forall_mem_cons.mpr ⟨lw_p42, List.forall_mem_cons.mpr ⟨lw_p43, fun _ h => absurd h List.not_mem_nil⟩⟩⟩⟩⟩⟩⟩⟩⟩⟩⟩⟩
def lw_privs : List (MethodName × Nat) := lw_privs_1 ++ (lw_privs_2 ++ (lw_privs_3))
def lw_tbl : List Cond := k2_sels lw_privs ++ tables_1
theorem lw_privs_ok : ∀ q ∈ lw_privs, lw_okq q := by
  show ∀ q ∈ lw_privs_1 ++ (lw_privs_2 ++ (lw_privs_3)), lw_okq q
  exact List.forall_mem_append.mpr ⟨lw_r1, List.forall_mem_append.mpr ⟨lw_r2, lw_r3⟩⟩
def RX0 : String := "ReachedHeap$Commands"
def TX0 : u_T := fun k => match k with
  | 0 => ("ReachedHeap$Commands", "signs", "[I", true)
  | 1 => ("ReachedHeap$Commands", "length", "I", false)
  | 2 => ("ReachedHeap$Commands", "next", "I", false)
  | 3 => ("ReachedHeap$Commands", "kind", "I", false)
  | 4 => ("ReachedHeap$Commands", "first", "I", false)
  | 5 => ("ReachedHeap$Commands", "second", "I", false)
  | 6 => ("ReachedHeap$Commands", "third", "I", false)
  | 7 => ("ReachedHeap$Commands", "done", "I", false)
  | 8 => ("ReachedHeap$Commands", "position", "I", false)
  | 9 => ("ReachedHeap$Commands", "reason", "I", false)
  | _ => ("ReachedHeap$Commands", "cause", "I", false)
def tyX0 : Nat → FieldType := fun k => match k with
  | 0 => .array .int
  | 1 => .int
  | 2 => .int
  | 3 => .int
  | 4 => .int
  | 5 => .int
  | 6 => .int
  | 7 => .int
  | 8 => .int
  | 9 => .int
  | _ => .int
abbrev wsX00 : List Cond := u_ws RX0 TX0 11
theorem nmX0 : ∀ a, a < 11 → ∀ b, b < 11 → a ≠ b → (TX0 a).2.1 ≠ (TX0 b).2.1 := by decide +kernel
theorem tyX0_ok : ∀ k, k < 11 → parseFieldDescriptor (TX0 k).2.2.1 = some (tyX0 k) := by decide +kernel
abbrev cX0_init : ByteArray := prog_2_method_1_code
def yX0_init : MethodName := ⟨RX0, "<init>", "()V"⟩
abbrev cX0_append : ByteArray := prog_2_method_2_code
def yX0_append : MethodName := ⟨RX0, "append", "(I)I"⟩
abbrev cX0_empty : ByteArray := prog_2_method_3_code
def yX0_empty : MethodName := ⟨RX0, "empty", "()I"⟩
abbrev cX0_tryOn : ByteArray := prog_2_method_4_code
def yX0_tryOn : MethodName := ⟨RX0, "tryOn", "(LReachedHeap$State;)V"⟩
abbrev cX0_tellFault : ByteArray := prog_2_method_5_code
def yX0_tellFault : MethodName := ⟨RX0, "tellFault", "(I)I"⟩
abbrev cX0_readCommand : ByteArray := prog_2_method_6_code
def yX0_readCommand : MethodName := ⟨RX0, "readCommand", "()Z"⟩
abbrev cX0_readTarget : ByteArray := prog_2_method_7_code
def yX0_readTarget : MethodName := ⟨RX0, "readTarget", "()I"⟩
abbrev cX0_readNumber : ByteArray := prog_2_method_8_code
def yX0_readNumber : MethodName := ⟨RX0, "readNumber", "()I"⟩
abbrev cX0_read : ByteArray := prog_2_method_9_code
def yX0_read : MethodName := ⟨RX0, "read", "(I)Z"⟩
abbrev cX0_isDigit : ByteArray := prog_2_method_10_code
def yX0_isDigit : MethodName := ⟨RX0, "isDigit", "(I)Z"⟩
abbrev cX0_signAt : ByteArray := prog_2_method_11_code
def yX0_signAt : MethodName := ⟨RX0, "signAt", "(I)I"⟩
def RX1 : String := "ReachedHeap$Graph"
def TX1 : u_T := fun k => match k with
  | 0 => ("ReachedHeap$Graph", "present", "I", false)
  | 1 => ("ReachedHeap$Graph", "wanting", "I", false)
  | 2 => ("ReachedHeap$Graph", "fields", "[I", true)
  | 3 => ("ReachedHeap$Graph", "roots", "[I", true)
  | 4 => ("ReachedHeap$Graph", "holders", "[I", true)
  | _ => ("ReachedHeap$Graph", "toFinish", "LReachedHeap$Line;", true)
def tyX1 : Nat → FieldType := fun k => match k with
  | 0 => .int
  | 1 => .int
  | 2 => .array .int
  | 3 => .array .int
  | 4 => .array .int
  | _ => .object "ReachedHeap$Line"
abbrev wsX10 : List Cond := u_ws RX1 TX1 6
theorem nmX1 : ∀ a, a < 6 → ∀ b, b < 6 → a ≠ b → (TX1 a).2.1 ≠ (TX1 b).2.1 := by decide +kernel
theorem tyX1_ok : ∀ k, k < 6 → parseFieldDescriptor (TX1 k).2.2.1 = some (tyX1 k) := by decide +kernel
abbrev cX1_init : ByteArray := prog_3_method_1_code
def yX1_init : MethodName := ⟨RX1, "<init>", "()V"⟩
abbrev cX1_has : ByteArray := prog_3_method_2_code
def yX1_has : MethodName := ⟨RX1, "has", "(I)Z"⟩
abbrev cX1_hasOrNone : ByteArray := prog_3_method_3_code
def yX1_hasOrNone : MethodName := ⟨RX1, "hasOrNone", "(I)Z"⟩
abbrev cX1_size : ByteArray := prog_3_method_4_code
def yX1_size : MethodName := ⟨RX1, "size", "()I"⟩
abbrev cX1_fieldOf : ByteArray := prog_3_method_5_code
def yX1_fieldOf : MethodName := ⟨RX1, "fieldOf", "(II)I"⟩
abbrev cX1_setField : ByteArray := prog_3_method_6_code
def yX1_setField : MethodName := ⟨RX1, "setField", "(III)V"⟩
abbrev cX1_rootAt : ByteArray := prog_3_method_7_code
def yX1_rootAt : MethodName := ⟨RX1, "rootAt", "(I)I"⟩
abbrev cX1_holderAt : ByteArray := prog_3_method_8_code
def yX1_holderAt : MethodName := ⟨RX1, "holderAt", "(I)I"⟩
abbrev cX1_tellReferred : ByteArray := prog_3_method_9_code
def yX1_tellReferred : MethodName := ⟨RX1, "tellReferred", "(II)I"⟩
abbrev cX1_bring : ByteArray := prog_3_method_10_code
def yX1_bring : MethodName := ⟨RX1, "bring", "()I"⟩
abbrev cX1_letGo : ByteArray := prog_3_method_11_code
def yX1_letGo : MethodName := ⟨RX1, "letGo", "(I)V"⟩
abbrev cX1_forget : ByteArray := prog_3_method_12_code
def yX1_forget : MethodName := ⟨RX1, "forget", "([II)V"⟩
abbrev cX1_emptyHoldersOf : ByteArray := prog_3_method_13_code
def yX1_emptyHoldersOf : MethodName := ⟨RX1, "emptyHoldersOf", "(I)V"⟩
abbrev cX1_setOfRoots : ByteArray := prog_3_method_14_code
def yX1_setOfRoots : MethodName := ⟨RX1, "setOfRoots", "()I"⟩
abbrev cX1_behind : ByteArray := prog_3_method_15_code
def yX1_behind : MethodName := ⟨RX1, "behind", "(I)I"⟩
abbrev cX1_reachedFrom : ByteArray := prog_3_method_16_code
def yX1_reachedFrom : MethodName := ⟨RX1, "reachedFrom", "(II)I"⟩
abbrev cX1_reachedByRoots : ByteArray := prog_3_method_17_code
def yX1_reachedByRoots : MethodName := ⟨RX1, "reachedByRoots", "()I"⟩
abbrev cX1_reachedByAll : ByteArray := prog_3_method_18_code
def yX1_reachedByAll : MethodName := ⟨RX1, "reachedByAll", "()I"⟩
abbrev cX1_distanceTo : ByteArray := prog_3_method_19_code
def yX1_distanceTo : MethodName := ⟨RX1, "distanceTo", "(I)I"⟩
abbrev cX1_copyFrom : ByteArray := prog_3_method_20_code
def yX1_copyFrom : MethodName := ⟨RX1, "copyFrom", "(LReachedHeap$Graph;)V"⟩
def RX2 : String := "ReachedHeap$History"
def TX2 : u_T := fun k => match k with
  | 0 => ("ReachedHeap$History", "states", "[LReachedHeap$State;", true)
  | 1 => ("ReachedHeap$History", "first", "I", false)
  | _ => ("ReachedHeap$History", "size", "I", false)
def tyX2 : Nat → FieldType := fun k => match k with
  | 0 => .array (.object "ReachedHeap$State")
  | 1 => .int
  | _ => .int
abbrev wsX20 : List Cond := u_ws RX2 TX2 3
theorem nmX2 : ∀ a, a < 3 → ∀ b, b < 3 → a ≠ b → (TX2 a).2.1 ≠ (TX2 b).2.1 := by decide +kernel
theorem tyX2_ok : ∀ k, k < 3 → parseFieldDescriptor (TX2 k).2.2.1 = some (tyX2 k) := by decide +kernel
abbrev cX2_init : ByteArray := prog_4_method_1_code
def yX2_init : MethodName := ⟨RX2, "<init>", "()V"⟩
abbrev cX2_stateAt : ByteArray := prog_4_method_2_code
def yX2_stateAt : MethodName := ⟨RX2, "stateAt", "(I)LReachedHeap$State;"⟩
abbrev cX2_note : ByteArray := prog_4_method_3_code
def yX2_note : MethodName := ⟨RX2, "note", "(LReachedHeap$State;)V"⟩
abbrev cX2_settle : ByteArray := prog_4_method_4_code
def yX2_settle : MethodName := ⟨RX2, "settle", "(I)I"⟩
abbrev cX2_takeBack : ByteArray := prog_4_method_5_code
def yX2_takeBack : MethodName := ⟨RX2, "takeBack", "(LReachedHeap$State;)I"⟩
def RX3 : String := "ReachedHeap$Line"
def TX3 : u_T := fun k => match k with
  | 0 => ("ReachedHeap$Line", "numbers", "[I", true)
  | _ => ("ReachedHeap$Line", "length", "I", false)
def tyX3 : Nat → FieldType := fun k => match k with
  | 0 => .array .int
  | _ => .int
abbrev wsX30 : List Cond := u_ws RX3 TX3 2
theorem nmX3 : ∀ a, a < 2 → ∀ b, b < 2 → a ≠ b → (TX3 a).2.1 ≠ (TX3 b).2.1 := by decide +kernel
theorem tyX3_ok : ∀ k, k < 2 → parseFieldDescriptor (TX3 k).2.2.1 = some (tyX3 k) := by decide +kernel
abbrev cX3_init : ByteArray := prog_5_method_1_code
def yX3_init : MethodName := ⟨RX3, "<init>", "()V"⟩
abbrev cX3_append : ByteArray := prog_5_method_2_code
def yX3_append : MethodName := ⟨RX3, "append", "(I)V"⟩
abbrev cX3_at : ByteArray := prog_5_method_3_code
def yX3_at : MethodName := ⟨RX3, "at", "(I)I"⟩
abbrev cX3_takeFirst : ByteArray := prog_5_method_4_code
def yX3_takeFirst : MethodName := ⟨RX3, "takeFirst", "()I"⟩
abbrev cX3_placeOf : ByteArray := prog_5_method_5_code
def yX3_placeOf : MethodName := ⟨RX3, "placeOf", "(I)I"⟩
abbrev cX3_asSet : ByteArray := prog_5_method_6_code
def yX3_asSet : MethodName := ⟨RX3, "asSet", "()I"⟩
abbrev cX3_copyFrom : ByteArray := prog_5_method_7_code
def yX3_copyFrom : MethodName := ⟨RX3, "copyFrom", "(LReachedHeap$Line;)V"⟩
def RX4 : String := "ReachedHeap$Search"
def TX4 : u_T := fun k => match k with
  | 0 => ("ReachedHeap$Search", "part", "I", false)
  | 1 => ("ReachedHeap$Search", "greyOnes", "I", false)
  | 2 => ("ReachedHeap$Search", "blackOnes", "I", false)
  | 3 => ("ReachedHeap$Search", "row", "LReachedHeap$Line;", true)
  | 4 => ("ReachedHeap$Search", "sweepFrom", "I", false)
  | 5 => ("ReachedHeap$Search", "began", "I", false)
  | 6 => ("ReachedHeap$Search", "steps", "I", false)
  | 7 => ("ReachedHeap$Search", "goneNow", "I", false)
  | _ => ("ReachedHeap$Search", "goneEver", "I", false)
def tyX4 : Nat → FieldType := fun k => match k with
  | 0 => .int
  | 1 => .int
  | 2 => .int
  | 3 => .object "ReachedHeap$Line"
  | 4 => .int
  | 5 => .int
  | 6 => .int
  | 7 => .int
  | _ => .int
abbrev wsX40 : List Cond := u_ws RX4 TX4 9
theorem nmX4 : ∀ a, a < 9 → ∀ b, b < 9 → a ≠ b → (TX4 a).2.1 ≠ (TX4 b).2.1 := by decide +kernel
theorem tyX4_ok : ∀ k, k < 9 → parseFieldDescriptor (TX4 k).2.2.1 = some (tyX4 k) := by decide +kernel
abbrev cX4_init : ByteArray := prog_6_method_1_code
def yX4_init : MethodName := ⟨RX4, "<init>", "()V"⟩
abbrev cX4_isThere : ByteArray := prog_6_method_2_code
def yX4_isThere : MethodName := ⟨RX4, "isThere", "()Z"⟩
abbrev cX4_needsCare : ByteArray := prog_6_method_3_code
def yX4_needsCare : MethodName := ⟨RX4, "needsCare", "()Z"⟩
abbrev cX4_isBlack : ByteArray := prog_6_method_4_code
def yX4_isBlack : MethodName := ⟨RX4, "isBlack", "(I)Z"⟩
abbrev cX4_colourOf : ByteArray := prog_6_method_5_code
def yX4_colourOf : MethodName := ⟨RX4, "colourOf", "(I)I"⟩
abbrev cX4_whiteOnes : ByteArray := prog_6_method_6_code
def yX4_whiteOnes : MethodName := ⟨RX4, "whiteOnes", "(LReachedHeap$Graph;)I"⟩
abbrev cX4_shade : ByteArray := prog_6_method_7_code
def yX4_shade : MethodName := ⟨RX4, "shade", "(I)V"⟩
abbrev cX4_colourNewOne : ByteArray := prog_6_method_8_code
def yX4_colourNewOne : MethodName := ⟨RX4, "colourNewOne", "(I)V"⟩
abbrev cX4_open : ByteArray := prog_6_method_9_code
def yX4_open : MethodName := ⟨RX4, "open", "(LReachedHeap$Graph;)V"⟩
abbrev cX4_advance : ByteArray := prog_6_method_10_code
def yX4_advance : MethodName := ⟨RX4, "advance", "(LReachedHeap$Graph;)V"⟩
abbrev cX4_markFirst : ByteArray := prog_6_method_11_code
def yX4_markFirst : MethodName := ⟨RX4, "markFirst", "(LReachedHeap$Graph;)V"⟩
abbrev cX4_findToFinish : ByteArray := prog_6_method_12_code
def yX4_findToFinish : MethodName := ⟨RX4, "findToFinish", "(LReachedHeap$Graph;)V"⟩
abbrev cX4_sweep : ByteArray := prog_6_method_13_code
def yX4_sweep : MethodName := ⟨RX4, "sweep", "(LReachedHeap$Graph;)V"⟩
abbrev cX4_copyFrom : ByteArray := prog_6_method_14_code
def yX4_copyFrom : MethodName := ⟨RX4, "copyFrom", "(LReachedHeap$Search;)V"⟩
def RX5 : String := "ReachedHeap$State"
def TX5 : u_T := fun k => match k with
  | 0 => ("ReachedHeap$State", "graph", "LReachedHeap$Graph;", true)
  | 1 => ("ReachedHeap$State", "search", "LReachedHeap$Search;", true)
  | 2 => ("ReachedHeap$State", "beganBefore", "[I", true)
  | 3 => ("ReachedHeap$State", "care", "I", false)
  | 4 => ("ReachedHeap$State", "came", "I", false)
  | _ => ("ReachedHeap$State", "finished", "I", false)
def tyX5 : Nat → FieldType := fun k => match k with
  | 0 => .object "ReachedHeap$Graph"
  | 1 => .object "ReachedHeap$Search"
  | 2 => .array .int
  | 3 => .int
  | 4 => .int
  | _ => .int
abbrev wsX50 : List Cond := u_ws RX5 TX5 6
theorem nmX5 : ∀ a, a < 6 → ∀ b, b < 6 → a ≠ b → (TX5 a).2.1 ≠ (TX5 b).2.1 := by decide +kernel
theorem tyX5_ok : ∀ k, k < 6 → parseFieldDescriptor (TX5 k).2.2.1 = some (tyX5 k) := by decide +kernel
abbrev cX5_init : ByteArray := prog_7_method_1_code
def yX5_init : MethodName := ⟨RX5, "<init>", "()V"⟩
abbrev cX5_create : ByteArray := prog_7_method_2_code
def yX5_create : MethodName := ⟨RX5, "create", "(I)I"⟩
abbrev cX5_writeField : ByteArray := prog_7_method_3_code
def yX5_writeField : MethodName := ⟨RX5, "writeField", "(III)I"⟩
abbrev cX5_writeRoot : ByteArray := prog_7_method_4_code
def yX5_writeRoot : MethodName := ⟨RX5, "writeRoot", "(II)I"⟩
abbrev cX5_writeHolder : ByteArray := prog_7_method_5_code
def yX5_writeHolder : MethodName := ⟨RX5, "writeHolder", "(II)I"⟩
abbrev cX5_askHolder : ByteArray := prog_7_method_6_code
def yX5_askHolder : MethodName := ⟨RX5, "askHolder", "(II)I"⟩
abbrev cX5_wishFinish : ByteArray := prog_7_method_7_code
def yX5_wishFinish : MethodName := ⟨RX5, "wishFinish", "(I)I"⟩
abbrev cX5_finishFirst : ByteArray := prog_7_method_8_code
def yX5_finishFirst : MethodName := ⟨RX5, "finishFirst", "(I)I"⟩
abbrev cX5_referRoot : ByteArray := prog_7_method_9_code
def yX5_referRoot : MethodName := ⟨RX5, "referRoot", "(II)V"⟩
abbrev cX5_takeCare : ByteArray := prog_7_method_10_code
def yX5_takeCare : MethodName := ⟨RX5, "takeCare", "(ZII)V"⟩
abbrev cX5_shadeIfCareIsNeeded : ByteArray := prog_7_method_11_code
def yX5_shadeIfCareIsNeeded : MethodName := ⟨RX5, "shadeIfCareIsNeeded", "(I)V"⟩
abbrev cX5_beginSearch : ByteArray := prog_7_method_12_code
def yX5_beginSearch : MethodName := ⟨RX5, "beginSearch", "()I"⟩
abbrev cX5_doSteps : ByteArray := prog_7_method_13_code
def yX5_doSteps : MethodName := ⟨RX5, "doSteps", "(I)I"⟩
abbrev cX5_doAllSteps : ByteArray := prog_7_method_14_code
def yX5_doAllSteps : MethodName := ⟨RX5, "doAllSteps", "()I"⟩
abbrev cX5_setCare : ByteArray := prog_7_method_15_code
def yX5_setCare : MethodName := ⟨RX5, "setCare", "(I)I"⟩
abbrev cX5_tellObject : ByteArray := prog_7_method_16_code
def yX5_tellObject : MethodName := ⟨RX5, "tellObject", "(II)I"⟩
abbrev cX5_tellSet : ByteArray := prog_7_method_17_code
def yX5_tellSet : MethodName := ⟨RX5, "tellSet", "(I)I"⟩
abbrev cX5_tellNumber : ByteArray := prog_7_method_18_code
def yX5_tellNumber : MethodName := ⟨RX5, "tellNumber", "(I)I"⟩
abbrev cX5_lateOnes : ByteArray := prog_7_method_19_code
def yX5_lateOnes : MethodName := ⟨RX5, "lateOnes", "()I"⟩
abbrev cX5_copyFrom : ByteArray := prog_7_method_20_code
def yX5_copyFrom : MethodName := ⟨RX5, "copyFrom", "(LReachedHeap$State;)V"⟩
def RX6 : String := "ReachedHeap"
def TX6 : u_T := fun k => match k with
  | 0 => ("ReachedHeap", "state", "LReachedHeap$State;", true)
  | 1 => ("ReachedHeap", "ahead", "LReachedHeap$State;", true)
  | 2 => ("ReachedHeap", "kept", "LReachedHeap$State;", true)
  | 3 => ("ReachedHeap", "history", "LReachedHeap$History;", true)
  | 4 => ("ReachedHeap", "commands", "LReachedHeap$Commands;", true)
  | _ => ("ReachedHeap", "isKept", "Z", false)
def tyX6 : Nat → FieldType := fun k => match k with
  | 0 => .object "ReachedHeap$State"
  | 1 => .object "ReachedHeap$State"
  | 2 => .object "ReachedHeap$State"
  | 3 => .object "ReachedHeap$History"
  | 4 => .object "ReachedHeap$Commands"
  | _ => .boolean
abbrev wsX60 : List Cond := u_ws RX6 TX6 6
theorem nmX6 : ∀ a, a < 6 → ∀ b, b < 6 → a ≠ b → (TX6 a).2.1 ≠ (TX6 b).2.1 := by decide +kernel
theorem tyX6_ok : ∀ k, k < 6 → parseFieldDescriptor (TX6 k).2.2.1 = some (tyX6 k) := by decide +kernel
abbrev cX6_init : ByteArray := prog_1_method_1_code
def yX6_init : MethodName := ⟨RX6, "<init>", "()V"⟩
abbrev cX6_make : ByteArray := prog_1_method_2_code
def yX6_make : MethodName := ⟨RX6, "make", "(I)I"⟩
abbrev cX6_field : ByteArray := prog_1_method_3_code
def yX6_field : MethodName := ⟨RX6, "field", "(III)I"⟩
abbrev cX6_root : ByteArray := prog_1_method_4_code
def yX6_root : MethodName := ⟨RX6, "root", "(II)I"⟩
abbrev cX6_weak : ByteArray := prog_1_method_5_code
def yX6_weak : MethodName := ⟨RX6, "weak", "(II)I"⟩
abbrev cX6_ask : ByteArray := prog_1_method_6_code
def yX6_ask : MethodName := ⟨RX6, "ask", "(II)I"⟩
abbrev cX6_want : ByteArray := prog_1_method_7_code
def yX6_want : MethodName := ⟨RX6, "want", "(I)I"⟩
abbrev cX6_finish : ByteArray := prog_1_method_8_code
def yX6_finish : MethodName := ⟨RX6, "finish", "(I)I"⟩
abbrev cX6_begin : ByteArray := prog_1_method_9_code
def yX6_begin : MethodName := ⟨RX6, "begin", "()I"⟩
abbrev cX6_step : ByteArray := prog_1_method_10_code
def yX6_step : MethodName := ⟨RX6, "step", "(I)I"⟩
abbrev cX6_all : ByteArray := prog_1_method_11_code
def yX6_all : MethodName := ⟨RX6, "all", "()I"⟩
abbrev cX6_set : ByteArray := prog_1_method_12_code
def yX6_set : MethodName := ⟨RX6, "set", "(I)I"⟩
abbrev cX6_objectOf : ByteArray := prog_1_method_13_code
def yX6_objectOf : MethodName := ⟨RX6, "objectOf", "(II)I"⟩
abbrev cX6_refers : ByteArray := prog_1_method_14_code
def yX6_refers : MethodName := ⟨RX6, "refers", "(II)I"⟩
abbrev cX6_grey : ByteArray := prog_1_method_15_code
def yX6_grey : MethodName := ⟨RX6, "grey", "(I)I"⟩
abbrev cX6_objects : ByteArray := prog_1_method_16_code
def yX6_objects : MethodName := ⟨RX6, "objects", "(I)I"⟩
abbrev cX6_count : ByteArray := prog_1_method_17_code
def yX6_count : MethodName := ⟨RX6, "count", "(I)I"⟩
abbrev cX6_far : ByteArray := prog_1_method_18_code
def yX6_far : MethodName := ⟨RX6, "far", "(I)I"⟩
abbrev cX6_hangs : ByteArray := prog_1_method_19_code
def yX6_hangs : MethodName := ⟨RX6, "hangs", "(I)I"⟩
abbrev cX6_wouldGo : ByteArray := prog_1_method_20_code
def yX6_wouldGo : MethodName := ⟨RX6, "wouldGo", "()I"⟩
abbrev cX6_late : ByteArray := prog_1_method_21_code
def yX6_late : MethodName := ⟨RX6, "late", "()I"⟩
abbrev cX6_keep : ByteArray := prog_1_method_22_code
def yX6_keep : MethodName := ⟨RX6, "keep", "()I"⟩
abbrev cX6_restore : ByteArray := prog_1_method_23_code
def yX6_restore : MethodName := ⟨RX6, "restore", "()I"⟩
abbrev cX6_undo : ByteArray := prog_1_method_24_code
def yX6_undo : MethodName := ⟨RX6, "undo", "()I"⟩
abbrev cX6_type : ByteArray := prog_1_method_25_code
def yX6_type : MethodName := ⟨RX6, "type", "(I)I"⟩
abbrev cX6_clearText : ByteArray := prog_1_method_26_code
def yX6_clearText : MethodName := ⟨RX6, "clearText", "()I"⟩
abbrev cX6_fault : ByteArray := prog_1_method_27_code
def yX6_fault : MethodName := ⟨RX6, "fault", "(I)I"⟩
abbrev cX6_play : ByteArray := prog_1_method_28_code
def yX6_play : MethodName := ⟨RX6, "play", "()I"⟩
abbrev cX6_bit : ByteArray := prog_1_method_29_code
def yX6_bit : MethodName := ⟨RX6, "bit", "(I)I"⟩
abbrev cX6_isIn : ByteArray := prog_1_method_30_code
def yX6_isIn : MethodName := ⟨RX6, "isIn", "(II)Z"⟩
abbrev cX6_isError : ByteArray := prog_1_method_31_code
def yX6_isError : MethodName := ⟨RX6, "isError", "(I)Z"⟩
abbrev cX6_lowestOf : ByteArray := prog_1_method_32_code
def yX6_lowestOf : MethodName := ⟨RX6, "lowestOf", "(II)I"⟩
def RX7 : String := "ReachedHeapModel"
def TX7 : u_T := fun k => match k with
  | 0 => ("ReachedHeapModel", "s", "[I", true)
  | 1 => ("ReachedHeapModel", "past", "[I", true)
  | 2 => ("ReachedHeapModel", "held", "[I", true)
  | 3 => ("ReachedHeapModel", "tried", "[I", true)
  | 4 => ("ReachedHeapModel", "kept", "[I", true)
  | 5 => ("ReachedHeapModel", "isKept", "Z", false)
  | 6 => ("ReachedHeapModel", "pasts", "I", false)
  | 7 => ("ReachedHeapModel", "runs", "Z", false)
  | 8 => ("ReachedHeapModel", "text", "[I", true)
  | 9 => ("ReachedHeapModel", "typed", "I", false)
  | 10 => ("ReachedHeapModel", "spot", "I", false)
  | 11 => ("ReachedHeapModel", "cause", "I", false)
  | 12 => ("ReachedHeapModel", "commands", "I", false)
  | 13 => ("ReachedHeapModel", "order", "I", false)
  | _ => ("ReachedHeapModel", "told", "[I", true)
def tyX7 : Nat → FieldType := fun k => match k with
  | 0 => .array .int
  | 1 => .array .int
  | 2 => .array .int
  | 3 => .array .int
  | 4 => .array .int
  | 5 => .boolean
  | 6 => .int
  | 7 => .boolean
  | 8 => .array .int
  | 9 => .int
  | 10 => .int
  | 11 => .int
  | 12 => .int
  | 13 => .int
  | _ => .array .int
abbrev wsX70 : List Cond := u_ws RX7 TX7 15
theorem nmX7 : ∀ a, a < 15 → ∀ b, b < 15 → a ≠ b → (TX7 a).2.1 ≠ (TX7 b).2.1 := by decide +kernel
theorem tyX7_ok : ∀ k, k < 15 → parseFieldDescriptor (TX7 k).2.2.1 = some (tyX7 k) := by decide +kernel
abbrev cX7_init : ByteArray := prog_9_method_1_code
def yX7_init : MethodName := ⟨RX7, "<init>", "()V"⟩
abbrev cX7_in : ByteArray := prog_9_method_3_code
def yX7_in : MethodName := ⟨RX7, "in", "(III)Z"⟩
abbrev cX7_copies : ByteArray := prog_9_method_4_code
def yX7_copies : MethodName := ⟨RX7, "copies", "([I[I)V"⟩
abbrev cX7_changes : ByteArray := prog_9_method_5_code
def yX7_changes : MethodName := ⟨RX7, "changes", "()V"⟩
abbrev cX7_of : ByteArray := prog_9_method_6_code
def yX7_of : MethodName := ⟨RX7, "of", "(II)I"⟩
abbrev cX7_sets : ByteArray := prog_9_method_7_code
def yX7_sets : MethodName := ⟨RX7, "sets", "(III)V"⟩
abbrev cX7_isObject : ByteArray := prog_9_method_8_code
def yX7_isObject : MethodName := ⟨RX7, "isObject", "(I)Z"⟩
abbrev cX7_isRoot : ByteArray := prog_9_method_9_code
def yX7_isRoot : MethodName := ⟨RX7, "isRoot", "(I)Z"⟩
abbrev cX7_spreads : ByteArray := prog_9_method_10_code
def yX7_spreads : MethodName := ⟨RX7, "spreads", "(II)I"⟩
abbrev cX7_rooted : ByteArray := prog_9_method_11_code
def yX7_rooted : MethodName := ⟨RX7, "rooted", "(I)I"⟩
abbrev cX7_reached : ByteArray := prog_9_method_12_code
def yX7_reached : MethodName := ⟨RX7, "reached", "()I"⟩
abbrev cX7_isReached : ByteArray := prog_9_method_13_code
def yX7_isReached : MethodName := ⟨RX7, "isReached", "(I)Z"⟩
abbrev cX7_isMarking : ByteArray := prog_9_method_14_code
def yX7_isMarking : MethodName := ⟨RX7, "isMarking", "()Z"⟩
abbrev cX7_shades : ByteArray := prog_9_method_15_code
def yX7_shades : MethodName := ⟨RX7, "shades", "(I)V"⟩
abbrev cX7_cares : ByteArray := prog_9_method_16_code
def yX7_cares : MethodName := ⟨RX7, "cares", "(IIZ)V"⟩
abbrev cX7_writesRoot : ByteArray := prog_9_method_17_code
def yX7_writesRoot : MethodName := ⟨RX7, "writesRoot", "(II)I"⟩
abbrev cX7_lowestFree : ByteArray := prog_9_method_18_code
def yX7_lowestFree : MethodName := ⟨RX7, "lowestFree", "()I"⟩
abbrev cX7_make : ByteArray := prog_9_method_19_code
def yX7_make : MethodName := ⟨RX7, "make", "(I)I"⟩
abbrev cX7_field : ByteArray := prog_9_method_20_code
def yX7_field : MethodName := ⟨RX7, "field", "(III)I"⟩
abbrev cX7_root : ByteArray := prog_9_method_21_code
def yX7_root : MethodName := ⟨RX7, "root", "(II)I"⟩
abbrev cX7_weak : ByteArray := prog_9_method_22_code
def yX7_weak : MethodName := ⟨RX7, "weak", "(II)I"⟩
abbrev cX7_ask : ByteArray := prog_9_method_23_code
def yX7_ask : MethodName := ⟨RX7, "ask", "(II)I"⟩
abbrev cX7_wanting : ByteArray := prog_9_method_24_code
def yX7_wanting : MethodName := ⟨RX7, "wanting", "()I"⟩
abbrev cX7_want : ByteArray := prog_9_method_25_code
def yX7_want : MethodName := ⟨RX7, "want", "(I)I"⟩
abbrev cX7_takes : ByteArray := prog_9_method_26_code
def yX7_takes : MethodName := ⟨RX7, "takes", "(I)I"⟩
abbrev cX7_finish : ByteArray := prog_9_method_27_code
def yX7_finish : MethodName := ⟨RX7, "finish", "(I)I"⟩
abbrev cX7_begins : ByteArray := prog_9_method_28_code
def yX7_begins : MethodName := ⟨RX7, "begins", "()V"⟩
abbrev cX7_begin : ByteArray := prog_9_method_29_code
def yX7_begin : MethodName := ⟨RX7, "begin", "()I"⟩
abbrev cX7_blackens : ByteArray := prog_9_method_30_code
def yX7_blackens : MethodName := ⟨RX7, "blackens", "()V"⟩
abbrev cX7_clears : ByteArray := prog_9_method_31_code
def yX7_clears : MethodName := ⟨RX7, "clears", "()V"⟩
abbrev cX7_looksForFinish : ByteArray := prog_9_method_32_code
def yX7_looksForFinish : MethodName := ⟨RX7, "looksForFinish", "()V"⟩
abbrev cX7_letsGo : ByteArray := prog_9_method_33_code
def yX7_letsGo : MethodName := ⟨RX7, "letsGo", "(I)V"⟩
abbrev cX7_sweeps : ByteArray := prog_9_method_34_code
def yX7_sweeps : MethodName := ⟨RX7, "sweeps", "()V"⟩
abbrev cX7_steps : ByteArray := prog_9_method_35_code
def yX7_steps : MethodName := ⟨RX7, "steps", "()V"⟩
abbrev cX7_step : ByteArray := prog_9_method_36_code
def yX7_step : MethodName := ⟨RX7, "step", "(I)I"⟩
abbrev cX7_doesAll : ByteArray := prog_9_method_37_code
def yX7_doesAll : MethodName := ⟨RX7, "doesAll", "()I"⟩
abbrev cX7_all : ByteArray := prog_9_method_38_code
def yX7_all : MethodName := ⟨RX7, "all", "()I"⟩
abbrev cX7_set : ByteArray := prog_9_method_39_code
def yX7_set : MethodName := ⟨RX7, "set", "(I)I"⟩
abbrev cX7_placeIn : ByteArray := prog_9_method_40_code
def yX7_placeIn : MethodName := ⟨RX7, "placeIn", "(I)I"⟩
abbrev cX7_objectOf : ByteArray := prog_9_method_41_code
def yX7_objectOf : MethodName := ⟨RX7, "objectOf", "(II)I"⟩
abbrev cX7_refers : ByteArray := prog_9_method_42_code
def yX7_refers : MethodName := ⟨RX7, "refers", "(II)I"⟩
abbrev cX7_grey : ByteArray := prog_9_method_43_code
def yX7_grey : MethodName := ⟨RX7, "grey", "(I)I"⟩
abbrev cX7_those : ByteArray := prog_9_method_44_code
def yX7_those : MethodName := ⟨RX7, "those", "(II)I"⟩
abbrev cX7_objects : ByteArray := prog_9_method_45_code
def yX7_objects : MethodName := ⟨RX7, "objects", "(I)I"⟩
abbrev cX7_ones : ByteArray := prog_9_method_46_code
def yX7_ones : MethodName := ⟨RX7, "ones", "(I)I"⟩
abbrev cX7_count : ByteArray := prog_9_method_47_code
def yX7_count : MethodName := ⟨RX7, "count", "(I)I"⟩
abbrev cX7_far : ByteArray := prog_9_method_48_code
def yX7_far : MethodName := ⟨RX7, "far", "(I)I"⟩
abbrev cX7_hangs : ByteArray := prog_9_method_49_code
def yX7_hangs : MethodName := ⟨RX7, "hangs", "(I)I"⟩
abbrev cX7_wouldGo : ByteArray := prog_9_method_50_code
def yX7_wouldGo : MethodName := ⟨RX7, "wouldGo", "()I"⟩
abbrev cX7_late : ByteArray := prog_9_method_51_code
def yX7_late : MethodName := ⟨RX7, "late", "()I"⟩
abbrev cX7_keep : ByteArray := prog_9_method_52_code
def yX7_keep : MethodName := ⟨RX7, "keep", "()I"⟩
abbrev cX7_restore : ByteArray := prog_9_method_53_code
def yX7_restore : MethodName := ⟨RX7, "restore", "()I"⟩
abbrev cX7_undo : ByteArray := prog_9_method_54_code
def yX7_undo : MethodName := ⟨RX7, "undo", "()I"⟩
abbrev cX7_type : ByteArray := prog_9_method_55_code
def yX7_type : MethodName := ⟨RX7, "type", "(I)I"⟩
abbrev cX7_clearText : ByteArray := prog_9_method_56_code
def yX7_clearText : MethodName := ⟨RX7, "clearText", "()I"⟩
abbrev cX7_isAt : ByteArray := prog_9_method_57_code
def yX7_isAt : MethodName := ⟨RX7, "isAt", "(II)Z"⟩
abbrev cX7_sign : ByteArray := prog_9_method_58_code
def yX7_sign : MethodName := ⟨RX7, "sign", "(I)Z"⟩
abbrev cX7_number : ByteArray := prog_9_method_59_code
def yX7_number : MethodName := ⟨RX7, "number", "(I)Z"⟩
abbrev cX7_target : ByteArray := prog_9_method_60_code
def yX7_target : MethodName := ⟨RX7, "target", "(I)Z"⟩
abbrev cX7_reads : ByteArray := prog_9_method_61_code
def yX7_reads : MethodName := ⟨RX7, "reads", "()Z"⟩
abbrev cX7_calls : ByteArray := prog_9_method_62_code
def yX7_calls : MethodName := ⟨RX7, "calls", "()I"⟩
abbrev cX7_plays : ByteArray := prog_9_method_63_code
def yX7_plays : MethodName := ⟨RX7, "plays", "()I"⟩
abbrev cX7_fault : ByteArray := prog_9_method_64_code
def yX7_fault : MethodName := ⟨RX7, "fault", "(I)I"⟩
abbrev cX7_play : ByteArray := prog_9_method_65_code
def yX7_play : MethodName := ⟨RX7, "play", "()I"⟩
def RJ6 : String := "java/lang/Integer"
def TJ6 : u_T := fun k => match k with
  | _ => ("", "", "", false)
def tyJ6 : Nat → FieldType := fun k => match k with
  | _ => .int
abbrev wsJ60 : List Cond := u_ws RJ6 TJ6 0
theorem nmJ6 : ∀ a, a < 0 → ∀ b, b < 0 → a ≠ b → (TJ6 a).2.1 ≠ (TJ6 b).2.1 := by decide +kernel
theorem tyJ6_ok : ∀ k, k < 0 → parseFieldDescriptor (TJ6 k).2.2.1 = some (tyJ6 k) := by decide +kernel
abbrev cJ6_bitCount_0f7a4 : ByteArray := prog_10_method_49_code
def yJ6_bitCount_0f7a4 : MethodName := ⟨RJ6, "bitCount", "(I)I"⟩
def RJ9 : String := "java/lang/Math"
def TJ9 : u_T := fun k => match k with
  | _ => ("", "", "", false)
def tyJ9 : Nat → FieldType := fun k => match k with
  | _ => .int
abbrev wsJ90 : List Cond := u_ws RJ9 TJ9 0
theorem nmJ9 : ∀ a, a < 0 → ∀ b, b < 0 → a ≠ b → (TJ9 a).2.1 ≠ (TJ9 b).2.1 := by decide +kernel
theorem tyJ9_ok : ∀ k, k < 0 → parseFieldDescriptor (TJ9 k).2.2.1 = some (tyJ9 k) := by decide +kernel
abbrev cJ9_floorMod_7cf53 : ByteArray := prog_11_method_50_code
def yJ9_floorMod_7cf53 : MethodName := ⟨RJ9, "floorMod", "(II)I"⟩
abbrev cJ9_max_7cf53 : ByteArray := prog_11_method_65_code
def yJ9_max_7cf53 : MethodName := ⟨RJ9, "max", "(II)I"⟩
def RJ10 : String := "java/lang/System"
def TJ10 : u_T := fun k => match k with
  | _ => ("", "", "", false)
def tyJ10 : Nat → FieldType := fun k => match k with
  | _ => .int
abbrev wsJ100 : List Cond := u_ws RJ10 TJ10 0
theorem nmJ10 : ∀ a, a < 0 → ∀ b, b < 0 → a ≠ b → (TJ10 a).2.1 ≠ (TJ10 b).2.1 := by decide +kernel
theorem tyJ10_ok : ∀ k, k < 0 → parseFieldDescriptor (TJ10 k).2.2.1 = some (tyJ10 k) := by decide +kernel
def RJ7 : String := "java/util/Arrays"
def TJ7 : u_T := fun k => match k with
  | _ => ("", "", "", false)
def tyJ7 : Nat → FieldType := fun k => match k with
  | _ => .int
abbrev wsJ70 : List Cond := u_ws RJ7 TJ7 0
theorem nmJ7 : ∀ a, a < 0 → ∀ b, b < 0 → a ≠ b → (TJ7 a).2.1 ≠ (TJ7 b).2.1 := by decide +kernel
theorem tyJ7_ok : ∀ k, k < 0 → parseFieldDescriptor (TJ7 k).2.2.1 = some (tyJ7 k) := by decide +kernel
abbrev cJ7_fill_53178 : ByteArray := prog_13_method_103_code
def yJ7_fill_53178 : MethodName := ⟨RJ7, "fill", "([II)V"⟩
def RL : String := "ReachedHeapLaw"
abbrev cL_law : ByteArray := code
def yL_law : MethodName := ⟨RL, "law", "([I)Z"⟩
abbrev vwCl : List vw_C := [(RX0, TX0, 11), (RX1, TX1, 6), (RX2, TX2, 3), (RX3, TX3, 2), (RX4, TX4, 9), (RX5, TX5, 6), (RX6, TX6, 6), (RX7, TX7, 15)]
theorem tb_mem1 {w : Cond} (h : w ∈ tables_1) : w ∈ lw_tbl := List.mem_append_right _ h
theorem tb_1 (i : Nat) {w : Cond} (h : tables_1_1[i]? = some w) : w ∈ lw_tbl := tb_mem1 (List.mem_append_left _ (List.mem_of_getElem? h))
theorem tb_2 (i : Nat) {w : Cond} (h : tables_1_2[i]? = some w) : w ∈ lw_tbl := tb_mem1 (List.mem_append_right _ (List.mem_append_left _ (List.mem_of_getElem? h)))
theorem tb_3 (i : Nat) {w : Cond} (h : tables_1_3[i]? = some w) : w ∈ lw_tbl := tb_mem1 (List.mem_append_right _ (List.mem_append_right _ (List.mem_append_left _ (List.mem_of_getElem? h))))
theorem tb_4 (i : Nat) {w : Cond} (h : tables_1_4[i]? = some w) : w ∈ lw_tbl := tb_mem1 (List.mem_append_right _ (List.mem_append_right _ (List.mem_append_right _ (List.mem_append_left _ (List.mem_of_getElem? h)))))
theorem tb_5 (i : Nat) {w : Cond} (h : tables_1_5[i]? = some w) : w ∈ lw_tbl := tb_mem1 (List.mem_append_right _ (List.mem_append_right _ (List.mem_append_right _ (List.mem_append_right _ (List.mem_of_getElem? h)))))
theorem tb_sel (q : MethodName × Nat) (h : q ∈ lw_privs) : Cond.selects q.1.cls q.1 q.1 ∈ lw_tbl := List.mem_append_left _ (List.mem_map.mpr ⟨q, h, rfl⟩)
def lw_g : List Cond := lw_tbl.filter goodWord
theorem lw_g_in {w : Cond} (h : w ∈ lw_tbl) (hg : goodWord w = true) : w ∈ lw_g := List.mem_filter.mpr ⟨h, hg⟩
theorem lw_g_tb {w : Cond} (h : w ∈ lw_g) : w ∈ lw_tbl := (List.mem_filter.mp h).1
theorem gi_g {big ws : List Cond} (hb : ∀ w ∈ lw_g, w ∈ big) (h : ∀ w ∈ ws, w ∈ lw_g) : GoodIn big ws := fun w hw => ⟨hb w (h w hw), good_of_word (List.mem_filter.mp (h w hw)).2⟩
theorem tb1 (i : Nat) {w : Cond} (h : tables_1_1[i]? = some w) (hg : goodWord w = true := by rfl) : w ∈ lw_g := lw_g_in (tb_1 i h) hg
theorem tb2 (i : Nat) {w : Cond} (h : tables_1_2[i]? = some w) (hg : goodWord w = true := by rfl) : w ∈ lw_g := lw_g_in (tb_2 i h) hg
theorem tb3 (i : Nat) {w : Cond} (h : tables_1_3[i]? = some w) (hg : goodWord w = true := by rfl) : w ∈ lw_g := lw_g_in (tb_3 i h) hg
theorem tb4 (i : Nat) {w : Cond} (h : tables_1_4[i]? = some w) (hg : goodWord w = true := by rfl) : w ∈ lw_g := lw_g_in (tb_4 i h) hg
theorem tb5 (i : Nat) {w : Cond} (h : tables_1_5[i]? = some w) (hg : goodWord w = true := by rfl) : w ∈ lw_g := lw_g_in (tb_5 i h) hg
theorem tbs (q : MethodName × Nat) (h : q ∈ lw_privs) : Cond.selects q.1.cls q.1 q.1 ∈ lw_g := lw_g_in (tb_sel q h) rfl
set_option maxRecDepth 100000 in
theorem inX0 : ∀ w ∈ wsX00, w ∈ lw_g := by decide +kernel
set_option maxRecDepth 100000 in
theorem inX1 : ∀ w ∈ wsX10, w ∈ lw_g := by decide +kernel
set_option maxRecDepth 100000 in
theorem inX2 : ∀ w ∈ wsX20, w ∈ lw_g := by decide +kernel
set_option maxRecDepth 100000 in
theorem inX3 : ∀ w ∈ wsX30, w ∈ lw_g := by decide +kernel
set_option maxRecDepth 100000 in
theorem inX4 : ∀ w ∈ wsX40, w ∈ lw_g := by decide +kernel
set_option maxRecDepth 100000 in
theorem inX5 : ∀ w ∈ wsX50, w ∈ lw_g := by decide +kernel
set_option maxRecDepth 100000 in
theorem inX6 : ∀ w ∈ wsX60, w ∈ lw_g := by decide +kernel
set_option maxRecDepth 100000 in
theorem inX7 : ∀ w ∈ wsX70, w ∈ lw_g := by decide +kernel
end
section
/-! THE RULES OF A BODY'S WALK over a world that is a function of numbers (St): a rule an instruction, a call by its contract -/
abbrev St : Type := (Nat → Int32) × (Nat → Nat → Int32)
def us (f : Nat → Int32) (r : Nat) (v : Int32) : Nat → Int32 := fun k => if k = r then v else f k
def ua (f : Nat → Nat → Int32) (a : Nat) (g : Nat → Int32) : Nat → Nat → Int32 := fun b => if b = a then g else f b
/-- a number written; a place of a row written; a row written whole -/
def sR (w : St) (r : Nat) (v : Int32) : St := (us w.1 r v, w.2)
def sG (w : St) (a : Nat) (g : Nat → Int32) : St := (w.1, ua w.2 a g)
def sA (w : St) (a : Nat) (i v : Int32) : St := sG w a (upd (w.2 a) i.toNatClampNeg v)
/-- an index in a row -/
abbrev ib (i : Int32) (n : Nat) : Prop := ¬ i < 0 ∧ i.toNatClampNeg < n
theorem ib_in {i : Int32} {n : Nat} (h : ib i n) : vp_in i n := fun q => q.elim h.1 (fun z => absurd h.2 (Nat.not_lt.mpr z))
def lo_has (ls : Array Slot) (nL : Nat) (lo : List (Option Value)) : Prop := ls.size = nL ∧ lv_wf ls ∧ ∀ (i : Nat) (v : Value), lo[i]? = some (some v) → ls[i]? = some (.val v)
def lp (lo : List (Option Value)) : List (Nat × Value) := (List.range lo.length).filterMap (fun i => (lo.getD i none).map (fun v => (i, v)))
theorem mem_lp {lo : List (Option Value)} {i : Nat} {v : Value} : (i, v) ∈ lp lo ↔ lo[i]? = some (some v) := by
  unfold lp
  rw [List.mem_filterMap]
  constructor
  · rintro ⟨k, hk, h⟩
    rw [List.mem_range] at hk
    rw [Option.map_eq_some_iff] at h
    obtain ⟨u, h1, h2⟩ := h
    cases h2
    rw [List.getD_eq_getElem?_getD, List.getElem?_eq_getElem hk] at h1
    rw [List.getElem?_eq_getElem hk]
    exact congrArg some h1
  · intro h
    have hk := (List.getElem?_eq_some_iff.mp h).1
    refine ⟨i, List.mem_range.mpr hk, ?_⟩
    rw [List.getD_eq_getElem?_getD, h]
    rfl
theorem lo_lv {ls : Array Slot} {nL : Nat} {lo : List (Option Value)} (h : lo_has ls nL lo) : lv_has ls nL (lp lo) := ⟨h.1, h.2.1, fun q hq => h.2.2 q.1 q.2 (mem_lp.mp hq)⟩
def cat1 (lo : List (Option Value)) : Bool := lo.all (fun o => match o with
  | none => true
  | some v => v.category == 1)
theorem lo_sto {ls' : Array Slot} {nL i : Nat} {v : Value} {lo : List (Option Value)} (hc : cat1 lo = true) (h : lv_has ls' nL ((i, v) :: (lp lo).filter (fun q => !(q.1 == i) && !(q.1 + 1 == i && q.2.category == 2)))) : lo_has ls' nL (lo.set i (some v)) := by
  refine ⟨h.1, h.2.1, fun j u hj => ?_⟩
  by_cases e : j = i
  · subst e
    have hl : j < lo.length := by
      have := (List.getElem?_eq_some_iff.mp hj).1
      rwa [List.length_set] at this
    rw [List.getElem?_set_self hl] at hj
    cases hj
    exact h.2.2 (j, v) List.mem_cons_self
  · rw [List.getElem?_set_ne (Ne.symm e)] at hj
    refine h.2.2 (j, u) (List.mem_cons_of_mem _ (List.mem_filter.mpr ⟨mem_lp.mpr hj, ?_⟩))
    have h1 := List.all_eq_true.mp hc _ (List.mem_of_getElem? hj)
    have h2 : u.category = 1 := by simpa using h1
    simp [e, h2]
def lo0 (nL : Nat) (As : List Value) : List (Option Value) := As.map some ++ List.replicate (nL - As.length) none
theorem lg_sl_cat {As : List Value} (hc : As.all (fun v => v.category == 1) = true) : lg_sl As = As.map Slot.val := by
  induction As with
  | nil => rfl
  | cons v t ih =>
    rw [List.all_cons, Bool.and_eq_true] at hc
    have h1 : v.category = 1 := by simpa using hc.1
    have h2 := ih hc.2
    unfold lg_sl at h2 ⊢
    rw [List.flatMap_cons, h2, if_neg (by omega)]
    rfl
theorem lo_entry {As : List Value} {nL : Nat} (hc : As.all (fun v => v.category == 1) = true) (hn : As.length ≤ nL) : lo_has ((lg_sl As ++ List.replicate (nL - (lg_sl As).length) Slot.unset).toArray) nL (lo0 nL As) := by
  have hs := lg_sl_cat hc
  have hl := lv_entry As (n := nL) (by rw [hs, List.length_map]; exact hn)
  refine ⟨hl.1, hl.2.1, fun i v hi => ?_⟩
  rw [hs, List.getElem?_toArray]
  unfold lo0 at hi
  by_cases h : i < As.length
  · rw [List.getElem?_append_left (by rw [List.length_map]; exact h), List.getElem?_map, List.getElem?_eq_getElem h] at hi
    rw [List.getElem?_append_left (by rw [List.length_map]; exact h), List.getElem?_map, List.getElem?_eq_getElem h]
    cases hi
    rfl
  · rw [List.getElem?_append_right (by rw [List.length_map]; omega)] at hi
    have h3 := List.eq_of_mem_replicate (List.mem_of_getElem? hi)
    cases h3
section GG
variable {p : Program} {l : Launch} {e : Env} {R : Room} {s : State} {m : MethodId} {args : Array Value} {below : List Frame} {meth : Method} {c : Code} {D : va_G} {A : Nat → Prop} {nL : Nat} {Q : State → Prop} {wf : St → va_W} {cc : ByteArray} {own : String} {cI : ClassId} {pc : Nat} {lo : List (Option Value)} {st : List Value} {w : St}
def gX (p : Program) (s : State) (m : MethodId) (args : Array Value) (meth : Method) (c : Code) (cc : ByteArray) (nL : Nat) (own : String) (D : va_G) (cI : ClassId) : Prop :=
  p.tables.exec = Jvm.exec ∧ c.code = cc ∧ c.maxLocals = nL ∧ s.vm.findClass own = some m.cls ∧ (∀ w ∈ lw_g, w.before args s = true) ∧ va_K D vwCl [(cI, .int)] s ∧ meth.locks = false
def G (p : Program) (l : Launch) (e : Env) (R : Room) (s : State) (m : MethodId) (args : Array Value) (below : List Frame) (meth : Method) (c : Code) (D : va_G) (A : Nat → Prop) (nL : Nat) (Q : State → Prop) (wf : St → va_W) (pc : Nat) (lo : List (Option Value)) (st : List Value) (w : St) : Prop :=
  ∀ (H : Heap) (locs : List Loc) (ls : Array Slot), lo_has ls nL lo → va_P D vwCl (wf w) H → va_D A (wf w) → va_S A s.heap H locs → W p l e R s m args below meth c H locs 0 0 Q (F0 m pc ls st)
def gB (D : va_G) (cI : ClassId) (A : Nat → Prop) (ws : va_W) (U : State) : Prop := va_P D vwCl ws U.heap ∧ va_K D vwCl [(cI, .int)] U ∧ va_D A ws
def qcI (D : va_G) (A : Nat → Prop) (r : Int32) (ws : va_W) : Array Value → State → Outcome → State → Prop := va_Qi (fun x (_ : Unit) => x = r) (fun _ t => va_P D vwCl ws t.heap ∧ va_D A ws) A
def qcV (D : va_G) (A : Nat → Prop) (ws : va_W) : Array Value → State → Outcome → State → Prop := va_Qv (fun (_ : Unit) => True) (fun _ t => va_P D vwCl ws t.heap ∧ va_D A ws) A
/-- a method's contract: from the world ws it returns the number r, and leaves the world ws' -/
def CTi (l : Launch) (D : va_G) (cI : ClassId) (A : Nat → Prop) (y : MethodName) (b : ByteArray) (nL : Nat) (ret : Option FieldType) (rm : Room) (As : List Value) (ws : va_W) (r : Int32) (ws' : va_W) : Prop :=
  Met l y (.code y b nL ret :: lw_g) rm (va_Pc As (gB D cI A ws)) (qcI D A r ws') 0 0 A
def CTv (l : Launch) (D : va_G) (cI : ClassId) (A : Nat → Prop) (y : MethodName) (b : ByteArray) (nL : Nat) (ret : Option FieldType) (rm : Room) (As : List Value) (ws ws' : va_W) : Prop :=
  Met l y (.code y b nL ret :: lw_g) rm (va_Pc As (gB D cI A ws)) (qcV D A ws') 0 0 A
theorem gB_blind {As : List Value} {ws : va_W} : FrameBlind (va_Pc As (gB D cI A ws)) := fun a U g mk q => ⟨q.1, q.2.1, va_K.moved (u := U) (U := U.calling g mk a) (Vm.Alike.refl U.vm) q.2.2.1, q.2.2.2⟩
theorem CTi.of {y : MethodName} {b : ByteArray} {ret : Option FieldType} {rm : Room} {As : List Value} {r : Int32} {ws' : va_W} (hpl : plainName y.cls = true) (hc : As.all (fun v => v.category == 1) = true) (hn : As.length ≤ nL)
    (h : ∀ (p : Program) (e : Env) (s : State) (m : MethodId) (args : Array Value) (below : List Frame) (meth : Method) (c : Code), gX p s m args meth c b nL y.cls D cI → meth.sig.returnType = ret → G p l e rm s m args below meth c D A nL (MQ below (qcI D A r ws') args s 0 0 A) wf 0 (lo0 nL As) [] w) : CTi l D cI A y b nL ret rm As (wf w) r ws' := by
  refine Met.ofW (cc := b) (maxL := nL) (ret := ret) hpl rfl ?_
  intro p e s m args below meth c s₁ B hml hv
  obtain ⟨rfl, hP, hK, hD⟩ := hv
  have hts := atoms_spec (ws := .code y b nL ret :: lw_g) B.pre
  have hx : gX p s m As.toArray meth c b nL y.cls D cI := ⟨B.exec, B.bytes, hml, findClass_of_methodNamed B.named, fun w hw => hts w (List.mem_cons_of_mem _ hw), hK, B.notSynchronized⟩
  rw [lg_entry_eq]
  exact h p e s m _ below meth c hx B.returns _ _ _ (lo_entry hc hn) hP hD va_S.rf
theorem CTv.of {y : MethodName} {b : ByteArray} {ret : Option FieldType} {rm : Room} {As : List Value} {ws' : va_W} (hpl : plainName y.cls = true) (hc : As.all (fun v => v.category == 1) = true) (hn : As.length ≤ nL)
    (h : ∀ (p : Program) (e : Env) (s : State) (m : MethodId) (args : Array Value) (below : List Frame) (meth : Method) (c : Code), gX p s m args meth c b nL y.cls D cI → meth.sig.returnType = ret → G p l e rm s m args below meth c D A nL (MQ below (qcV D A ws') args s 0 0 A) wf 0 (lo0 nL As) [] w) : CTv l D cI A y b nL ret rm As (wf w) ws' := by
  refine Met.ofW (cc := b) (maxL := nL) (ret := ret) hpl rfl ?_
  intro p e s m args below meth c s₁ B hml hv
  obtain ⟨rfl, hP, hK, hD⟩ := hv
  have hts := atoms_spec (ws := .code y b nL ret :: lw_g) B.pre
  have hx : gX p s m As.toArray meth c b nL y.cls D cI := ⟨B.exec, B.bytes, hml, findClass_of_methodNamed B.named, fun w hw => hts w (List.mem_cons_of_mem _ hw), hK, B.notSynchronized⟩
  rw [lg_entry_eq]
  exact h p e s m _ below meth c hx B.returns _ _ _ (lo_entry hc hn) hP hD va_S.rf
/-- fewer locals known -/
theorem g_sub {lo' : List (Option Value)} (h : ∀ (i : Nat) (v : Value), lo'[i]? = some (some v) → lo[i]? = some (some v)) (k : G p l e R s m args below meth c D A nL Q wf pc lo' st w) : G p l e R s m args below meth c D A nL Q wf pc lo st w :=
  fun H locs ls hl hP hD hS => k H locs ls ⟨hl.1, hl.2.1, fun i v q => hl.2.2 i v (h i v q)⟩ hP hD hS
theorem g_iconst (X : gX p s m args meth c cc nL own D cI) {n : Int} {v : Int32} (d : decode cc pc = .ok (.iconst n, 1)) (hv : Int32.ofInt n = v) (k : G p l e R s m args below meth c D A nL Q wf (pc + 1) lo (.int v :: st) w) : G p l e R s m args below meth c D A nL Q wf pc lo st w :=
  fun H locs ls hl hP hD hS => lv_iconst X.1 X.2.1 d hv (k H locs ls hl hP hD hS)
theorem g_bipush (X : gX p s m args meth c cc nL own D cI) {n : Int} {v : Int32} (d : decode cc pc = .ok (.bipush n, 2)) (hv : (Int8.ofInt n).toInt32 = v) (k : G p l e R s m args below meth c D A nL Q wf (pc + 2) lo (.int v :: st) w) : G p l e R s m args below meth c D A nL Q wf pc lo st w :=
  fun H locs ls hl hP hD hS => lv_bipush X.1 X.2.1 d hv (k H locs ls hl hP hD hS)
theorem g_sipush (X : gX p s m args meth c cc nL own D cI) {n : Int} {v : Int32} (d : decode cc pc = .ok (.sipush n, 3)) (hv : (Int16.ofInt n).toInt32 = v) (k : G p l e R s m args below meth c D A nL Q wf (pc + 3) lo (.int v :: st) w) : G p l e R s m args below meth c D A nL Q wf pc lo st w :=
  fun H locs ls hl hP hD hS => lv_sipush X.1 X.2.1 d hv (k H locs ls hl hP hD hS)
theorem g_ldcw (X : gX p s m args meth c cc nL own D cI) {n : Nat} {v : Int32} (d : decode cc pc = .ok (.ldc_w n, 3)) (hw : Cond.constant own n v ∈ lw_g) (k : G p l e R s m args below meth c D A nL Q wf (pc + 3) lo (.int v :: st) w) : G p l e R s m args below meth c D A nL Q wf pc lo st w :=
  fun H locs ls hl hP hD hS => lv_ldcw X.1 X.2.1 X.2.2.2.1 (X.2.2.2.2.1 _ hw) d (k H locs ls hl hP hD hS)
theorem g_iload_n (X : gX p s m args meth c cc nL own D cI) {k0 : Fin 4} {i : Nat} {x : Int32} (d : decode cc pc = .ok (.iload_n k0, 1)) (hi : (k0 : Nat) = i) (hl0 : lo[i]? = some (some (.int x))) (k : G p l e R s m args below meth c D A nL Q wf (pc + 1) lo (.int x :: st) w) : G p l e R s m args below meth c D A nL Q wf pc lo st w :=
  fun H locs ls hl hP hD hS => lv_iload_n X.1 X.2.1 d hi (hl.2.2 _ _ hl0) (k H locs ls hl hP hD hS)
theorem g_iload (X : gX p s m args meth c cc nL own D cI) {i : Nat} {x : Int32} (d : decode cc pc = .ok (.iload i, 2)) (hl0 : lo[i]? = some (some (.int x))) (k : G p l e R s m args below meth c D A nL Q wf (pc + 2) lo (.int x :: st) w) : G p l e R s m args below meth c D A nL Q wf pc lo st w :=
  fun H locs ls hl hP hD hS => lv_iload X.1 X.2.1 d (hl.2.2 _ _ hl0) (k H locs ls hl hP hD hS)
theorem g_aload_n (X : gX p s m args meth c cc nL own D cI) {k0 : Fin 4} {i : Nat} {x : Nat} (d : decode cc pc = .ok (.aload_n k0, 1)) (hi : (k0 : Nat) = i) (hl0 : lo[i]? = some (some (.ref x))) (k : G p l e R s m args below meth c D A nL Q wf (pc + 1) lo (.ref x :: st) w) : G p l e R s m args below meth c D A nL Q wf pc lo st w :=
  fun H locs ls hl hP hD hS => lv_aload_n X.1 X.2.1 d hi (hl.2.2 _ _ hl0) (k H locs ls hl hP hD hS)
theorem g_istore_n (X : gX p s m args meth c cc nL own D cI) {k0 : Fin 4} {i : Nat} {x : Int32} (d : decode cc pc = .ok (.istore_n k0, 1)) (hi : (k0 : Nat) = i) (hn : i < nL) (hc : cat1 lo = true) (k : G p l e R s m args below meth c D A nL Q wf (pc + 1) (lo.set i (some (.int x))) st w) : G p l e R s m args below meth c D A nL Q wf pc lo (.int x :: st) w :=
  fun H locs ls hl hP hD hS => lv_istore_n X.1 X.2.1 d hi (lo_lv hl) hn rfl (fun ls1 hl1 => k H locs ls1 (lo_sto hc hl1) hP hD hS)
theorem g_istore (X : gX p s m args meth c cc nL own D cI) {i : Nat} {x : Int32} (d : decode cc pc = .ok (.istore i, 2)) (hn : i < nL) (hc : cat1 lo = true) (k : G p l e R s m args below meth c D A nL Q wf (pc + 2) (lo.set i (some (.int x))) st w) : G p l e R s m args below meth c D A nL Q wf pc lo (.int x :: st) w :=
  fun H locs ls hl hP hD hS => lv_istore X.1 X.2.1 d (lo_lv hl) hn rfl (fun ls1 hl1 => k H locs ls1 (lo_sto hc hl1) hP hD hS)
theorem g_astore_n (X : gX p s m args meth c cc nL own D cI) {k0 : Fin 4} {i : Nat} {x : Nat} (d : decode cc pc = .ok (.astore_n k0, 1)) (hi : (k0 : Nat) = i) (hn : i < nL) (hc : cat1 lo = true) (k : G p l e R s m args below meth c D A nL Q wf (pc + 1) (lo.set i (some (.ref x))) st w) : G p l e R s m args below meth c D A nL Q wf pc lo (.ref x :: st) w :=
  fun H locs ls hl hP hD hS => lv_astore_n X.1 X.2.1 d hi (lo_lv hl) hn rfl (fun ls1 hl1 => k H locs ls1 (lo_sto hc hl1) hP hD hS)
theorem g_iinc (X : gX p s m args meth c cc nL own D cI) {i : Nat} {n : Int} {x v : Int32} (d : decode cc pc = .ok (.iinc i n, 3)) (hl0 : lo[i]? = some (some (.int x))) (hv : Int32.ofInt n = v) (hn : i < nL) (hc : cat1 lo = true) (k : G p l e R s m args below meth c D A nL Q wf (pc + 3) (lo.set i (some (.int (x + v)))) st w) : G p l e R s m args below meth c D A nL Q wf pc lo st w := by
  subst hv
  intro H locs ls hl hP hD hS
  obtain ⟨kk, hk⟩ := List.getElem?_of_mem (mem_lp.mpr hl0)
  exact lv_iinc X.1 X.2.1 d (lo_lv hl) hk rfl hn rfl (fun ls1 hl1 => k H locs ls1 (lo_sto hc hl1) hP hD hS)
theorem g_iadd (X : gX p s m args meth c cc nL own D cI) {x y : Int32} (d : decode cc pc = .ok (.iadd, 1)) (k : G p l e R s m args below meth c D A nL Q wf (pc + 1) lo (.int (x + y) :: st) w) : G p l e R s m args below meth c D A nL Q wf pc lo (.int y :: .int x :: st) w :=
  fun H locs ls hl hP hD hS => lv_iadd X.1 X.2.1 d (k H locs ls hl hP hD hS)
theorem g_isub (X : gX p s m args meth c cc nL own D cI) {x y : Int32} (d : decode cc pc = .ok (.isub, 1)) (k : G p l e R s m args below meth c D A nL Q wf (pc + 1) lo (.int (x - y) :: st) w) : G p l e R s m args below meth c D A nL Q wf pc lo (.int y :: .int x :: st) w :=
  fun H locs ls hl hP hD hS => lv_isub X.1 X.2.1 d (k H locs ls hl hP hD hS)
theorem g_imul (X : gX p s m args meth c cc nL own D cI) {x y : Int32} (d : decode cc pc = .ok (.imul, 1)) (k : G p l e R s m args below meth c D A nL Q wf (pc + 1) lo (.int (x * y) :: st) w) : G p l e R s m args below meth c D A nL Q wf pc lo (.int y :: .int x :: st) w :=
  fun H locs ls hl hP hD hS => lv_imul X.1 X.2.1 d (k H locs ls hl hP hD hS)
theorem g_iand (X : gX p s m args meth c cc nL own D cI) {x y : Int32} (d : decode cc pc = .ok (.iand, 1)) (k : G p l e R s m args below meth c D A nL Q wf (pc + 1) lo (.int (x &&& y) :: st) w) : G p l e R s m args below meth c D A nL Q wf pc lo (.int y :: .int x :: st) w :=
  fun H locs ls hl hP hD hS => lv_iand X.1 X.2.1 d (k H locs ls hl hP hD hS)
theorem g_ior (X : gX p s m args meth c cc nL own D cI) {x y : Int32} (d : decode cc pc = .ok (.ior, 1)) (k : G p l e R s m args below meth c D A nL Q wf (pc + 1) lo (.int (x ||| y) :: st) w) : G p l e R s m args below meth c D A nL Q wf pc lo (.int y :: .int x :: st) w :=
  fun H locs ls hl hP hD hS => lv_ior X.1 X.2.1 d (k H locs ls hl hP hD hS)
theorem g_ixor (X : gX p s m args meth c cc nL own D cI) {x y : Int32} (d : decode cc pc = .ok (.ixor, 1)) (k : G p l e R s m args below meth c D A nL Q wf (pc + 1) lo (.int (x ^^^ y) :: st) w) : G p l e R s m args below meth c D A nL Q wf pc lo (.int y :: .int x :: st) w :=
  fun H locs ls hl hP hD hS => lv_ixor X.1 X.2.1 d (k H locs ls hl hP hD hS)
theorem g_ishl (X : gX p s m args meth c cc nL own D cI) {x y : Int32} (d : decode cc pc = .ok (.ishl, 1)) (k : G p l e R s m args below meth c D A nL Q wf (pc + 1) lo (.int (x <<< (y &&& 31)) :: st) w) : G p l e R s m args below meth c D A nL Q wf pc lo (.int y :: .int x :: st) w :=
  fun H locs ls hl hP hD hS => lv_ishl X.1 X.2.1 d (k H locs ls hl hP hD hS)
theorem g_ishr (X : gX p s m args meth c cc nL own D cI) {x y : Int32} (d : decode cc pc = .ok (.ishr, 1)) (k : G p l e R s m args below meth c D A nL Q wf (pc + 1) lo (.int (x >>> (y &&& 31)) :: st) w) : G p l e R s m args below meth c D A nL Q wf pc lo (.int y :: .int x :: st) w :=
  fun H locs ls hl hP hD hS => lv_ishr X.1 X.2.1 d (k H locs ls hl hP hD hS)
theorem g_idiv (X : gX p s m args meth c cc nL own D cI) {x y : Int32} (d : decode cc pc = .ok (.idiv, 1)) (hy : ¬ y = 0) (k : G p l e R s m args below meth c D A nL Q wf (pc + 1) lo (.int (x / y) :: st) w) : G p l e R s m args below meth c D A nL Q wf pc lo (.int y :: .int x :: st) w :=
  fun H locs ls hl hP hD hS => lv_idiv X.1 X.2.1 d hy (k H locs ls hl hP hD hS)
theorem g_irem (X : gX p s m args meth c cc nL own D cI) {x y : Int32} (d : decode cc pc = .ok (.irem, 1)) (hy : ¬ y = 0) (k : G p l e R s m args below meth c D A nL Q wf (pc + 1) lo (.int (x - x / y * y) :: st) w) : G p l e R s m args below meth c D A nL Q wf pc lo (.int y :: .int x :: st) w :=
  fun H locs ls hl hP hD hS => lv_irem X.1 X.2.1 d hy (k H locs ls hl hP hD hS)
theorem g_iushr (X : gX p s m args meth c cc nL own D cI) {x y : Int32} (d : decode cc pc = .ok (.iushr, 1)) (k : G p l e R s m args below meth c D A nL Q wf (pc + 1) lo (.int ((x.toUInt32 >>> (y.toUInt32 &&& Int32.toUInt32 31)).toInt32) :: st) w) : G p l e R s m args below meth c D A nL Q wf pc lo (.int y :: .int x :: st) w :=
  fun H locs ls hl hP hD hS => lv_iushr X.1 X.2.1 d rfl (k H locs ls hl hP hD hS)
theorem g_dup (X : gX p s m args meth c cc nL own D cI) {v : Value} (d : decode cc pc = .ok (.dup, 1)) (hv : v.category = 1) (k : G p l e R s m args below meth c D A nL Q wf (pc + 1) lo (v :: v :: st) w) : G p l e R s m args below meth c D A nL Q wf pc lo (v :: st) w :=
  fun H locs ls hl hP hD hS => lv_dup X.1 X.2.1 d hv (k H locs ls hl hP hD hS)
theorem g_dup2 (X : gX p s m args meth c cc nL own D cI) {v u : Value} (d : decode cc pc = .ok (.dup2, 1)) (hv : v.category = 1) (hu : u.category = 1) (k : G p l e R s m args below meth c D A nL Q wf (pc + 1) lo (v :: u :: v :: u :: st) w) : G p l e R s m args below meth c D A nL Q wf pc lo (v :: u :: st) w :=
  fun H locs ls hl hP hD hS => lv_dup2_11 X.1 X.2.1 d hv hu (k H locs ls hl hP hD hS)
theorem g_pop (X : gX p s m args meth c cc nL own D cI) {v : Value} (d : decode cc pc = .ok (.pop, 1)) (hv : v.category = 1) (k : G p l e R s m args below meth c D A nL Q wf (pc + 1) lo st w) : G p l e R s m args below meth c D A nL Q wf pc lo (v :: st) w :=
  fun H locs ls hl hP hD hS => lv_pop X.1 X.2.1 d hv (k H locs ls hl hP hD hS)
theorem g_goto (X : gX p s m args meth c cc nL own D cI) {off : Int} {tgt : Nat} (d : decode cc pc = .ok (.goto off, 3)) (ht : (pc : Int) + off = (tgt : Int)) (k : G p l e R s m args below meth c D A nL Q wf tgt lo st w) : G p l e R s m args below meth c D A nL Q wf pc lo st w :=
  fun H locs ls hl hP hD hS => lv_goto X.1 X.2.1 d ht (k H locs ls hl hP hD hS)
theorem hfp {β : Type} {q : Prop} {_ : Decidable q} {F1 F2 : Option β} {o : β} (hf : (if q then F1 else F2) = some o) (h : q) : F1 = some o := by rw [if_pos h] at hf; exact hf
theorem hfn {β : Type} {q : Prop} {_ : Decidable q} {F1 F2 : Option β} {o : β} (hf : (if q then F1 else F2) = some o) (h : ¬ q) : F2 = some o := by rw [if_neg h] at hf; exact hf
theorem hfb {β γ : Type} {F : Option β} {g : β → Option γ} {o : γ} (hf : F.bind g = some o) : ∃ b, F = some b ∧ g b = some o := Option.bind_eq_some_iff.mp hf
theorem hfg {β : Type} {q : Prop} {_ : Decidable q} {F1 : Option β} {o : β} (hf : (if q then F1 else none) = some o) : q ∧ F1 = some o := by
  by_cases h : q
  · rw [if_pos h] at hf; exact ⟨h, hf⟩
  · rw [if_neg h] at hf; cases hf
theorem nle {x y : Int32} (h : x ≤ y) : ¬ y < x := Int32.not_lt.mpr h
theorem nnl {x y : Int32} (h : ¬ x ≤ y) : y < x := Int32.not_le.mp h
theorem g_if_eq (X : gX p s m args meth c cc nL own D cI) {x : Int32} {off : Int} {tgt : Nat} {β : Type} {F1 F2 : Option β} {o : β} (d : decode cc pc = .ok (.ifCond .eq off, 3)) (ht : (pc : Int) + off = (tgt : Int)) (hf : (if x = 0 then F1 else F2) = some o) (k1 : (x = 0) → F1 = some o → G p l e R s m args below meth c D A nL Q wf tgt lo st w) (k2 : ¬ (x = 0) → F2 = some o → G p l e R s m args below meth c D A nL Q wf (pc + 3) lo st w) : G p l e R s m args below meth c D A nL Q wf pc lo (.int x :: st) w :=
  fun H locs ls hl hP hD hS => lv_if_eq X.1 X.2.1 d ht (fun a => k1 a (hfp hf a) H locs ls hl hP hD hS) (fun a => k2 a (hfn hf a) H locs ls hl hP hD hS)
theorem g_if_ne (X : gX p s m args meth c cc nL own D cI) {x : Int32} {off : Int} {tgt : Nat} {β : Type} {F1 F2 : Option β} {o : β} (d : decode cc pc = .ok (.ifCond .ne off, 3)) (ht : (pc : Int) + off = (tgt : Int)) (hf : (if x = 0 then F1 else F2) = some o) (k1 : (x = 0) → F1 = some o → G p l e R s m args below meth c D A nL Q wf (pc + 3) lo st w) (k2 : ¬ (x = 0) → F2 = some o → G p l e R s m args below meth c D A nL Q wf tgt lo st w) : G p l e R s m args below meth c D A nL Q wf pc lo (.int x :: st) w :=
  fun H locs ls hl hP hD hS => lv_if_ne X.1 X.2.1 d ht (fun a => k2 a (hfn hf a) H locs ls hl hP hD hS) (fun a => k1 a (hfp hf a) H locs ls hl hP hD hS)
theorem g_if_lt (X : gX p s m args meth c cc nL own D cI) {x : Int32} {off : Int} {tgt : Nat} {β : Type} {F1 F2 : Option β} {o : β} (d : decode cc pc = .ok (.ifCond .lt off, 3)) (ht : (pc : Int) + off = (tgt : Int)) (hf : (if x < 0 then F1 else F2) = some o) (k1 : (x < 0) → F1 = some o → G p l e R s m args below meth c D A nL Q wf tgt lo st w) (k2 : ¬ (x < 0) → F2 = some o → G p l e R s m args below meth c D A nL Q wf (pc + 3) lo st w) : G p l e R s m args below meth c D A nL Q wf pc lo (.int x :: st) w :=
  fun H locs ls hl hP hD hS => lv_if_lt X.1 X.2.1 d ht (fun a => k1 a (hfp hf a) H locs ls hl hP hD hS) (fun a => k2 a (hfn hf a) H locs ls hl hP hD hS)
theorem g_if_ge (X : gX p s m args meth c cc nL own D cI) {x : Int32} {off : Int} {tgt : Nat} {β : Type} {F1 F2 : Option β} {o : β} (d : decode cc pc = .ok (.ifCond .ge off, 3)) (ht : (pc : Int) + off = (tgt : Int)) (hf : (if x < 0 then F1 else F2) = some o) (k1 : (x < 0) → F1 = some o → G p l e R s m args below meth c D A nL Q wf (pc + 3) lo st w) (k2 : ¬ (x < 0) → F2 = some o → G p l e R s m args below meth c D A nL Q wf tgt lo st w) : G p l e R s m args below meth c D A nL Q wf pc lo (.int x :: st) w :=
  fun H locs ls hl hP hD hS => lv_if_ge X.1 X.2.1 d ht (fun a => k2 (nle a) (hfn hf (nle a)) H locs ls hl hP hD hS) (fun a => k1 (nnl a) (hfp hf (nnl a)) H locs ls hl hP hD hS)
theorem g_if_gt (X : gX p s m args meth c cc nL own D cI) {x : Int32} {off : Int} {tgt : Nat} {β : Type} {F1 F2 : Option β} {o : β} (d : decode cc pc = .ok (.ifCond .gt off, 3)) (ht : (pc : Int) + off = (tgt : Int)) (hf : (if 0 < x then F1 else F2) = some o) (k1 : (0 < x) → F1 = some o → G p l e R s m args below meth c D A nL Q wf tgt lo st w) (k2 : ¬ (0 < x) → F2 = some o → G p l e R s m args below meth c D A nL Q wf (pc + 3) lo st w) : G p l e R s m args below meth c D A nL Q wf pc lo (.int x :: st) w :=
  fun H locs ls hl hP hD hS => lv_if_gt X.1 X.2.1 d ht (fun a => k1 a (hfp hf a) H locs ls hl hP hD hS) (fun a => k2 a (hfn hf a) H locs ls hl hP hD hS)
theorem g_if_le (X : gX p s m args meth c cc nL own D cI) {x : Int32} {off : Int} {tgt : Nat} {β : Type} {F1 F2 : Option β} {o : β} (d : decode cc pc = .ok (.ifCond .le off, 3)) (ht : (pc : Int) + off = (tgt : Int)) (hf : (if 0 < x then F1 else F2) = some o) (k1 : (0 < x) → F1 = some o → G p l e R s m args below meth c D A nL Q wf (pc + 3) lo st w) (k2 : ¬ (0 < x) → F2 = some o → G p l e R s m args below meth c D A nL Q wf tgt lo st w) : G p l e R s m args below meth c D A nL Q wf pc lo (.int x :: st) w :=
  fun H locs ls hl hP hD hS => lv_if_le X.1 X.2.1 d ht (fun a => k2 (nle a) (hfn hf (nle a)) H locs ls hl hP hD hS) (fun a => k1 (nnl a) (hfp hf (nnl a)) H locs ls hl hP hD hS)
theorem g_icmp_eq (X : gX p s m args meth c cc nL own D cI) {x y : Int32} {off : Int} {tgt : Nat} {β : Type} {F1 F2 : Option β} {o : β} (d : decode cc pc = .ok (.if_icmp .eq off, 3)) (ht : (pc : Int) + off = (tgt : Int)) (hf : (if x = y then F1 else F2) = some o) (k1 : (x = y) → F1 = some o → G p l e R s m args below meth c D A nL Q wf tgt lo st w) (k2 : ¬ (x = y) → F2 = some o → G p l e R s m args below meth c D A nL Q wf (pc + 3) lo st w) : G p l e R s m args below meth c D A nL Q wf pc lo (.int y :: .int x :: st) w :=
  fun H locs ls hl hP hD hS => lv_icmp_eq X.1 X.2.1 d ht (fun a => k1 a (hfp hf a) H locs ls hl hP hD hS) (fun a => k2 a (hfn hf a) H locs ls hl hP hD hS)
theorem g_icmp_ne (X : gX p s m args meth c cc nL own D cI) {x y : Int32} {off : Int} {tgt : Nat} {β : Type} {F1 F2 : Option β} {o : β} (d : decode cc pc = .ok (.if_icmp .ne off, 3)) (ht : (pc : Int) + off = (tgt : Int)) (hf : (if x = y then F1 else F2) = some o) (k1 : (x = y) → F1 = some o → G p l e R s m args below meth c D A nL Q wf (pc + 3) lo st w) (k2 : ¬ (x = y) → F2 = some o → G p l e R s m args below meth c D A nL Q wf tgt lo st w) : G p l e R s m args below meth c D A nL Q wf pc lo (.int y :: .int x :: st) w :=
  fun H locs ls hl hP hD hS => lv_icmp_ne X.1 X.2.1 d ht (fun a => k2 a (hfn hf a) H locs ls hl hP hD hS) (fun a => k1 a (hfp hf a) H locs ls hl hP hD hS)
theorem g_icmp_lt (X : gX p s m args meth c cc nL own D cI) {x y : Int32} {off : Int} {tgt : Nat} {β : Type} {F1 F2 : Option β} {o : β} (d : decode cc pc = .ok (.if_icmp .lt off, 3)) (ht : (pc : Int) + off = (tgt : Int)) (hf : (if x < y then F1 else F2) = some o) (k1 : (x < y) → F1 = some o → G p l e R s m args below meth c D A nL Q wf tgt lo st w) (k2 : ¬ (x < y) → F2 = some o → G p l e R s m args below meth c D A nL Q wf (pc + 3) lo st w) : G p l e R s m args below meth c D A nL Q wf pc lo (.int y :: .int x :: st) w :=
  fun H locs ls hl hP hD hS => lv_icmp_lt X.1 X.2.1 d ht (fun a => k1 a (hfp hf a) H locs ls hl hP hD hS) (fun a => k2 a (hfn hf a) H locs ls hl hP hD hS)
theorem g_icmp_ge (X : gX p s m args meth c cc nL own D cI) {x y : Int32} {off : Int} {tgt : Nat} {β : Type} {F1 F2 : Option β} {o : β} (d : decode cc pc = .ok (.if_icmp .ge off, 3)) (ht : (pc : Int) + off = (tgt : Int)) (hf : (if x < y then F1 else F2) = some o) (k1 : (x < y) → F1 = some o → G p l e R s m args below meth c D A nL Q wf (pc + 3) lo st w) (k2 : ¬ (x < y) → F2 = some o → G p l e R s m args below meth c D A nL Q wf tgt lo st w) : G p l e R s m args below meth c D A nL Q wf pc lo (.int y :: .int x :: st) w :=
  fun H locs ls hl hP hD hS => lv_icmp_ge X.1 X.2.1 d ht (fun a => k2 (nle a) (hfn hf (nle a)) H locs ls hl hP hD hS) (fun a => k1 (nnl a) (hfp hf (nnl a)) H locs ls hl hP hD hS)
theorem g_icmp_gt (X : gX p s m args meth c cc nL own D cI) {x y : Int32} {off : Int} {tgt : Nat} {β : Type} {F1 F2 : Option β} {o : β} (d : decode cc pc = .ok (.if_icmp .gt off, 3)) (ht : (pc : Int) + off = (tgt : Int)) (hf : (if y < x then F1 else F2) = some o) (k1 : (y < x) → F1 = some o → G p l e R s m args below meth c D A nL Q wf tgt lo st w) (k2 : ¬ (y < x) → F2 = some o → G p l e R s m args below meth c D A nL Q wf (pc + 3) lo st w) : G p l e R s m args below meth c D A nL Q wf pc lo (.int y :: .int x :: st) w :=
  fun H locs ls hl hP hD hS => lv_icmp_gt X.1 X.2.1 d ht (fun a => k1 a (hfp hf a) H locs ls hl hP hD hS) (fun a => k2 a (hfn hf a) H locs ls hl hP hD hS)
theorem g_icmp_le (X : gX p s m args meth c cc nL own D cI) {x y : Int32} {off : Int} {tgt : Nat} {β : Type} {F1 F2 : Option β} {o : β} (d : decode cc pc = .ok (.if_icmp .le off, 3)) (ht : (pc : Int) + off = (tgt : Int)) (hf : (if y < x then F1 else F2) = some o) (k1 : (y < x) → F1 = some o → G p l e R s m args below meth c D A nL Q wf (pc + 3) lo st w) (k2 : ¬ (y < x) → F2 = some o → G p l e R s m args below meth c D A nL Q wf tgt lo st w) : G p l e R s m args below meth c D A nL Q wf pc lo (.int y :: .int x :: st) w :=
  fun H locs ls hl hP hD hS => lv_icmp_le X.1 X.2.1 d ht (fun a => k2 (nle a) (hfn hf (nle a)) H locs ls hl hP hD hS) (fun a => k1 (nnl a) (hfp hf (nnl a)) H locs ls hl hP hD hS)
theorem g_lookup (X : gX p s m args meth c cc nL own D cI) {dflt : Int} {ps : Array (Int × Int)} {len : Nat} {x : Int32} {off : Int} {tgt : Nat} (d : decode cc pc = .ok (.lookupswitch dflt ps, len)) (hp : (ps.toList.zip (ps.toList.drop 1)).all (fun (a, next) => a.1 < next.1) = true) (ho : Op.lookupswitch.offset ps.toList dflt x.toInt = off) (ht : (pc : Int) + off = (tgt : Int)) (k : G p l e R s m args below meth c D A nL Q wf tgt lo st w) : G p l e R s m args below meth c D A nL Q wf pc lo (.int x :: st) w :=
  fun H locs ls hl hP hD hS => lv_lookup X.1 X.2.1 d hp ho ht (k H locs ls hl hP hD hS)
theorem g_tableIn (X : gX p s m args meth c cc nL own D cI) {dflt lw hi : Int} {offs : Array Int} {len : Nat} {x : Int32} {off : Int} {tgt : Nat} (d : decode cc pc = .ok (.tableswitch dflt lw hi offs, len)) (h1 : ¬ x.toInt < lw) (h2 : ¬ hi < x.toInt) (ho : offs[(x.toInt - lw).toNat]? = some off) (ht : (pc : Int) + off = (tgt : Int)) (k : G p l e R s m args below meth c D A nL Q wf tgt lo st w) : G p l e R s m args below meth c D A nL Q wf pc lo (.int x :: st) w :=
  fun H locs ls hl hP hD hS => lv_tableIn X.1 X.2.1 d h1 h2 ho ht (k H locs ls hl hP hD hS)
theorem g_tableOut (X : gX p s m args meth c cc nL own D cI) {dflt lw hi : Int} {offs : Array Int} {len : Nat} {x : Int32} {tgt : Nat} (d : decode cc pc = .ok (.tableswitch dflt lw hi offs, len)) (h : x.toInt < lw ∨ hi < x.toInt) (ht : (pc : Int) + dflt = (tgt : Int)) (k : G p l e R s m args below meth c D A nL Q wf tgt lo st w) : G p l e R s m args below meth c D A nL Q wf pc lo (.int x :: st) w :=
  fun H locs ls hl hP hD hS => lv_tableOut X.1 X.2.1 d h ht (k H locs ls hl hP hD hS)
/-- a class of the world's: its words, its fields -/
def gC (C : String) (T : u_T) (N : Nat) (ty0 : Nat → FieldType) : Prop := (∀ w ∈ u_ws C T N, w ∈ lw_g) ∧ (∀ k, k < N → parseFieldDescriptor (T k).2.2.1 = some (ty0 k)) ∧ (∀ a, a < N → ∀ b, b < N → a ≠ b → (T a).2.1 ≠ (T b).2.1)
theorem g_get (X : gX p s m args meth c cc nL own D cI) {C ref : String} {T : u_T} {ty0 : Nat → FieldType} {N ci index q0 a : Nat} {fs : List Value} {v : Value} (k0 : Nat) (d : decode cc pc = .ok (.getfield index, 3)) (hC : gC C T N ty0) (he : (wf w)[q0]? = some (a, .inr (ci, fs))) (hc : vwCl[ci]? = some (C, T, N)) (hk : k0 < N) (hw : Cond.fieldLink own index ref (T k0).2.1 (T k0).2.2.1 ∈ lw_g) (href : (T k0).1 = ref) (hv : fs[k0]? = some v) (k : G p l e R s m args below meth c D A nL Q wf (pc + 3) lo (v :: st) w) : G p l e R s m args below meth c D A nL Q wf pc lo (.ref a :: st) w :=
  fun H locs ls hl hP hD hS => va_get X.1 X.2.1 X.2.2.2.2.1 hC.1 X.2.2.2.1 X.2.2.2.2.2.1 hP q0 he hc k0 hk (X.2.2.2.2.1 _ hw) (fun _ h => href ▸ h) hv d (k H locs ls hl hP hD hS)
theorem g_put (X : gX p s m args meth c cc nL own D cI) {C ref : String} {T : u_T} {ty0 : Nat → FieldType} {N ci index q0 a : Nat} {fs : List Value} {v : Value} {w' : St} (k0 : Nat) (d : decode cc pc = .ok (.putfield index, 3)) (hC : gC C T N ty0) (he : (wf w)[q0]? = some (a, .inr (ci, fs))) (hc : vwCl[ci]? = some (C, T, N)) (hk : k0 < N) (hw : Cond.fieldLink own index ref (T k0).2.1 (T k0).2.2.1 ∈ lw_g) (href : (T k0).1 = ref) (hfin : (T k0).2.2.2 = false) {ty : FieldType} (hd : parseFieldDescriptor (T k0).2.2.1 = some ty) (hn : narrow ty v = v) (hfit : fits ty v = true) (hl0 : k0 < fs.length) (hw' : (wf w).set q0 (a, .inr (ci, fs.set k0 v)) = wf w') (k : G p l e R s m args below meth c D A nL Q wf (pc + 3) lo st w') : G p l e R s m args below meth c D A nL Q wf pc lo (v :: .ref a :: st) w := by
  intro H locs ls hl hP hD hS
  refine va_put X.1 X.2.1 X.2.2.2.2.1 hC.1 ty0 hC.2.1 hC.2.2 X.2.2.2.1 X.2.2.2.2.2.1 hP hD hS q0 he hc k0 hk (X.2.2.2.2.1 _ hw) (fun _ h => href ▸ h) hfin hd hn hfit hl0 d (fun H1 locs1 hP1 hD1 hS1 => ?_)
  rw [hw'] at hP1 hD1
  exact k H1 locs1 ls hl hP1 hD1 hS1
theorem g_iald (X : gX p s m args meth c cc nL own D cI) {q0 a n : Nat} {f : Nat → Int32} {i : Int32} (d : decode cc pc = .ok (.iaload, 1)) (he : (wf w)[q0]? = some (a, .inl (cI, n, .inl f))) (hi : ib i n) (k : G p l e R s m args below meth c D A nL Q wf (pc + 1) lo (.int (f i.toNatClampNeg) :: st) w) : G p l e R s m args below meth c D A nL Q wf pc lo (.int i :: .ref a :: st) w :=
  fun H locs ls hl hP hD hS => va_iald X.1 X.2.1 X.2.2.2.2.2.1 hP q0 0 he rfl (ib_in hi) d (k H locs ls hl hP hD hS)
theorem g_iast (X : gX p s m args meth c cc nL own D cI) {q0 a n : Nat} {f : Nat → Int32} {i x : Int32} {w' : St} (d : decode cc pc = .ok (.iastore, 1)) (he : (wf w)[q0]? = some (a, .inl (cI, n, .inl f))) (hi : ib i n) (hw' : (wf w).set q0 (a, .inl (cI, n, .inl (upd f i.toNatClampNeg x))) = wf w') (k : G p l e R s m args below meth c D A nL Q wf (pc + 1) lo st w') : G p l e R s m args below meth c D A nL Q wf pc lo (.int x :: .int i :: .ref a :: st) w := by
  intro H locs ls hl hP hD hS
  refine va_iast X.1 X.2.1 X.2.2.2.2.2.1 hP hD hS q0 0 he rfl (ib_in hi) d (fun H1 locs1 hP1 hD1 hS1 => ?_)
  rw [hw'] at hP1 hD1
  exact k H1 locs1 ls hl hP1 hD1 hS1
theorem g_alen (X : gX p s m args meth c cc nL own D cI) {q0 a n : Nat} {f : Nat → Int32} {v : Int32} (d : decode cc pc = .ok (.arraylength, 1)) (he : (wf w)[q0]? = some (a, .inl (cI, n, .inl f))) (hv : Int32.ofNat n = v) (k : G p l e R s m args below meth c D A nL Q wf (pc + 1) lo (.int v :: st) w) : G p l e R s m args below meth c D A nL Q wf pc lo (.ref a :: st) w :=
  fun H locs ls hl hP hD hS => va_alen X.1 X.2.1 X.2.2.2.2.2.1 hP q0 0 he rfl hv d (k H locs ls hl hP hD hS)
theorem g_copy (X : gX p s m args meth c cc nL own D cI) {q0 q1 a0 a index n0 n1 : Nat} {f g : Nat → Int32} {sp dp n : Int32} {w' : St} (d : decode cc pc = .ok (.invokestatic index, 3)) (hw : (Cond.methodLink own index arraycopyName) ∈ lw_g) (hnat : Cond.native arraycopyName ∈ lw_g) (hst : Cond.static arraycopyName ∈ lw_g) (hini : Cond.initialized "java/lang/System" ∈ lw_g) (ha0 : (wf w)[q0]? = some (a0, .inl (cI, n0, .inl f))) (ha1 : (wf w)[q1]? = some (a, .inl (cI, n1, .inl g))) (h1 : ¬ sp < 0) (h2 : ¬ dp < 0) (h3 : ¬ n < 0) (h4 : sp.toNatClampNeg + n.toNatClampNeg ≤ n0) (h5 : dp.toNatClampNeg + n.toNatClampNeg ≤ n1) (hR : 1 ≤ R.frames ∧ (st.map fun v => v.category).sum + (nativeFrameWords "java/lang/System" "arraycopy" 5 + 11) ≤ R.locals) (hw' : (wf w).set q1 (a, .inl (cI, n1, .inl (va_cpy f g sp.toNatClampNeg dp.toNatClampNeg n.toNatClampNeg))) = wf w') (k : G p l e R s m args below meth c D A nL Q wf (pc + 3) lo st w') : G p l e R s m args below meth c D A nL Q wf pc lo (.int n :: .int dp :: .ref a :: .int sp :: .ref a0 :: st) w := by
  intro H locs ls hl hP hD hS
  refine va_copyi X.1 X.2.1 (X.2.2.1.trans hl.1.symm) X.2.2.2.1 (X.2.2.2.2.1 _ hw) (X.2.2.2.2.1 _ hnat) (X.2.2.2.2.1 _ hst) (X.2.2.2.2.1 _ hini) X.2.2.2.2.2.1 hP hD hS q0 q1 0 0 ha0 ha1 rfl rfl rfl h1 h2 h3 h4 h5 (fun _ _ => rfl) hR.1 hR.2 d (fun H1 locs1 hP1 hD1 hS1 => ?_)
  rw [hw'] at hP1 hD1
  exact k H1 locs1 ls hl hP1 hD1 hS1
theorem g_max (X : gX p s m args meth c cc nL own D cI) {index : Nat} {x y : Int32} (d : decode cc pc = .ok (.invokestatic index, 3)) (hw : (Cond.methodLink own index Lib.Math.max.name) ∈ lw_g) (hst : Cond.static Lib.Math.max.name ∈ lw_g) (hini : Cond.initialized "java/lang/Math" ∈ lw_g) (hcode : Cond.code Lib.Math.max.name Lib.Math.max.code 2 (some .int) ∈ lw_g) (hR : 1 ≤ R.frames ∧ (st.map fun v => v.category).sum + 13 ≤ R.locals) (k : G p l e R s m args below meth c D A nL Q wf (pc + 3) lo (.int (if x < y then y else x) :: st) w) : G p l e R s m args below meth c D A nL Q wf pc lo (.int y :: .int x :: st) w :=
  fun H locs ls hl hP hD hS => va_mmax X.1 X.2.1 (X.2.2.1.trans hl.1.symm) X.2.2.2.1 (X.2.2.2.2.1 _ hw) (X.2.2.2.2.1 _ hst) (X.2.2.2.2.1 _ hini) (X.2.2.2.2.1 _ hcode) hR.1 hR.2 (Nat.zero_le _) (Nat.zero_le _) d (k H locs ls hl hP hD hS)
def yV (y : MethodName) (C : String) (b : ByteArray) (nLc : Nat) (ret : Option FieldType) (n : Nat) : Prop := (Cond.instanceMethod y ∈ lw_g ∧ Cond.selects C y y ∈ lw_g ∧ Cond.initialized C ∈ lw_g ∧ Cond.code y b nLc ret ∈ lw_g) ∧ y.cls = C ∧ y.cls ≠ "java/lang/invoke/MethodHandle" ∧ y.cls ≠ "java/lang/invoke/VarHandle" ∧ (parseMethodDescriptor y.desc).map (fun d => d.parameters.length) = some n
def yS (y : MethodName) (b : ByteArray) (nLc : Nat) (ret : Option FieldType) (n : Nat) : Prop := (Cond.static y ∈ lw_g ∧ Cond.initialized y.cls ∈ lw_g ∧ Cond.code y b nLc ret ∈ lw_g) ∧ y.cls ≠ "java/lang/invoke/MethodHandle" ∧ y.cls ≠ "java/lang/invoke/VarHandle" ∧ (parseMethodDescriptor y.desc).map (fun d => d.parameters.length) = some n
theorem gd_V {y : MethodName} {C : String} {b : ByteArray} {nLc : Nat} {ret : Option FieldType} {n idx : Nat} {own : String} (h : yV y C b nLc ret n) (hw : Cond.methodLink own idx y ∈ lw_g) : GoodIn lw_g (wsV own idx C y (.code y b nLc ret :: lw_g)) := by
  refine gi_g (fun _ h => h) (fun w hw1 => ?_)
  unfold wsV at hw1
  simp only [List.cons_append, List.nil_append, List.mem_cons] at hw1
  obtain ⟨⟨h1, h2, h3, h4⟩, -⟩ := h
  rcases hw1 with rfl | rfl | rfl | rfl | rfl | q
  · exact hw
  · exact h1
  · exact h2
  · exact h3
  · exact h4
  · exact q
theorem gd_S {y : MethodName} {b : ByteArray} {nLc : Nat} {ret : Option FieldType} {n idx : Nat} {own : String} (h : yS y b nLc ret n) (hw : Cond.methodLink own idx y ∈ lw_g) : GoodIn lw_g (va_wsS own idx y (.code y b nLc ret :: lw_g)) := by
  refine gi_g (fun _ h => h) (fun w hw1 => ?_)
  unfold va_wsS at hw1
  simp only [List.cons_append, List.nil_append, List.mem_cons] at hw1
  obtain ⟨⟨h1, h2, h3⟩, -⟩ := h
  rcases hw1 with rfl | rfl | rfl | rfl | q
  · exact hw
  · exact h1
  · exact h2
  · exact h3
  · exact q
theorem gd_N {y : MethodName} {b : ByteArray} {nLc : Nat} {ret : Option FieldType} {n : Nat} (h : yS y b nLc ret n) : GoodIn lw_g (.code y b nLc ret :: lw_g) := by
  refine gi_g (fun _ h => h) (fun w hw1 => ?_)
  rcases List.mem_cons.mp hw1 with rfl | q
  · exact h.1.2.2
  · exact q
theorem g_Vi (X : gX p s m args meth c cc nL own D cI) {y : MethodName} {b : ByteArray} {nLc n idx q0 ci a N : Nat} {ret : Option FieldType} {rm : Room} {C : String} {T : u_T} {fs As st rest : List Value} {r : Int32} {w1 : St} (hM : CTi l D cI A y b nLc ret rm (.ref a :: As) (wf w) r (wf w1)) (d : decode cc pc = .ok (.invokevirtual idx, 3)) (hw : Cond.methodLink own idx y ∈ lw_g) (hy : yV y C b nLc ret n) (he : (wf w)[q0]? = some (a, .inr (ci, fs))) (hc : vwCl[ci]? = some (C, T, N)) (hst : st = As.reverse ++ .ref a :: rest) (hn : As.length = n) (hR : rm.frames + 1 ≤ R.frames ∧ 8 + (nLc + 11) + rm.locals ≤ R.locals) (hrc : rm.cells = 0 ∧ rm.slots = 0) (hcat : (rest.map fun v => v.category).sum ≤ 8) (k : G p l e R s m args below meth c D A nL Q wf (pc + 3) lo (.int r :: rest) w1) : G p l e R s m args below meth c D A nL Q wf pc lo st w := by
  intro H locs ls hl hP hD hS
  refine va_calli (va_runV (As := As) (rest := rest) ⟨X.1, X.2.1, X.2.2.1, X.2.2.2.1, X.2.2.2.2.1⟩ hM (cwV n X.2.2.2.2.1 (gd_V hy hw) rfl hrc.1 hrc.2 hy.2 hR) ⟨gB_blind, va_recv X.2.2.2.2.2.1 hP hc he, fun U hU hW => ⟨rfl, by rw [hU]; exact hP, va_K.moved hW.alike X.2.2.2.2.2.1, hD⟩⟩ rfl hn hl.1 hst (lv_room hcat) d ⟨Nat.zero_le _, Nat.zero_le _⟩) hS (fun _ _ h => h) (fun _ h => h)
    (fun r1 u t H1 locs1 ht hvm hpost hB hz hk hS1 => ?_)
  cases hpost
  exact k H1 locs1 ls hl (by rw [← ht]; exact hB.1) hB.2 hS1
theorem g_Si (X : gX p s m args meth c cc nL own D cI) {y : MethodName} {b : ByteArray} {nLc n idx : Nat} {ret : Option FieldType} {rm : Room} {As st rest : List Value} {r : Int32} {w1 : St} (hM : CTi l D cI A y b nLc ret rm As (wf w) r (wf w1)) (d : decode cc pc = .ok (.invokestatic idx, 3)) (hw : Cond.methodLink own idx y ∈ lw_g) (hy : yS y b nLc ret n) (hst : st = As.reverse ++ rest) (hn : As.length = n) (hR : rm.frames + 1 ≤ R.frames ∧ 8 + (nLc + 11) + rm.locals ≤ R.locals) (hrc : rm.cells = 0 ∧ rm.slots = 0) (hcat : (rest.map fun v => v.category).sum ≤ 8) (k : G p l e R s m args below meth c D A nL Q wf (pc + 3) lo (.int r :: rest) w1) : G p l e R s m args below meth c D A nL Q wf pc lo st w := by
  intro H locs ls hl hP hD hS
  refine va_calli (va_runS (As := As) (rest := rest) ⟨X.1, X.2.1, X.2.2.1, X.2.2.2.1, X.2.2.2.2.1⟩ hM (va_cwS n X.2.2.2.2.1 (gd_S hy hw) rfl hrc.1 hrc.2 hy.2 hR) ⟨gB_blind, fun U hU hW => ⟨rfl, by rw [hU]; exact hP, va_K.moved hW.alike X.2.2.2.2.2.1, hD⟩⟩ rfl hn hl.1 hst (lv_room hcat) d ⟨Nat.zero_le _, Nat.zero_le _⟩) hS (fun _ _ h => h) (fun _ h => h)
    (fun r1 u t H1 locs1 ht hvm hpost hB hz hk hS1 => ?_)
  cases hpost
  exact k H1 locs1 ls hl (by rw [← ht]; exact hB.1) hB.2 hS1
theorem g_Ni (X : gX p s m args meth c cc nL own D cI) {y : MethodName} {b : ByteArray} {nLc n idx : Nat} {host : String} {ret : Option FieldType} {rm : Room} {As st rest : List Value} {r : Int32} {w1 : St} (hM : CTi l D cI A y b nLc ret rm As (wf w) r (wf w1)) (d : decode cc pc = .ok (.invokestatic idx, 3)) (hw : Cond.methodLinkNest own idx y host ∈ lw_g) (hy : yS y b nLc ret n) (hst : st = As.reverse ++ rest) (hn : As.length = n) (hR : rm.frames + 1 ≤ R.frames ∧ 8 + (nLc + 11) + rm.locals ≤ R.locals) (hrc : rm.cells = 0 ∧ rm.slots = 0) (hcat : (rest.map fun v => v.category).sum ≤ 8) (k : G p l e R s m args below meth c D A nL Q wf (pc + 3) lo (.int r :: rest) w1) : G p l e R s m args below meth c D A nL Q wf pc lo st w := by
  intro H locs ls hl hP hD hS
  refine va_calli (va_runSN (As := As) (rest := rest) ⟨X.1, X.2.1, X.2.2.1, X.2.2.2.1, X.2.2.2.2.1⟩ hM ⟨va_cnB n X.2.2.2.2.1 (gd_N hy) rfl hrc.1 hrc.2 (va_Nw.of rfl (X.2.2.2.2.1 _ hw)) (X.2.2.2.2.1 _ hy.1.2.1) hy.2 hR, X.2.2.2.2.1 _ hy.1.1, trivial⟩ ⟨gB_blind, fun U hU hW => ⟨rfl, by rw [hU]; exact hP, va_K.moved hW.alike X.2.2.2.2.2.1, hD⟩⟩ rfl hn hl.1 hst (lv_room hcat) d ⟨Nat.zero_le _, Nat.zero_le _⟩) hS (fun _ _ h => h) (fun _ h => h)
    (fun r1 u t H1 locs1 ht hvm hpost hB hz hk hS1 => ?_)
  cases hpost
  exact k H1 locs1 ls hl (by rw [← ht]; exact hB.1) hB.2 hS1
theorem g_Vv (X : gX p s m args meth c cc nL own D cI) {y : MethodName} {b : ByteArray} {nLc n idx q0 ci a N : Nat} {ret : Option FieldType} {rm : Room} {C : String} {T : u_T} {fs As st rest : List Value} {w1 : St} (hM : CTv l D cI A y b nLc ret rm (.ref a :: As) (wf w) (wf w1)) (d : decode cc pc = .ok (.invokevirtual idx, 3)) (hw : Cond.methodLink own idx y ∈ lw_g) (hy : yV y C b nLc ret n) (he : (wf w)[q0]? = some (a, .inr (ci, fs))) (hc : vwCl[ci]? = some (C, T, N)) (hst : st = As.reverse ++ .ref a :: rest) (hn : As.length = n) (hR : rm.frames + 1 ≤ R.frames ∧ 8 + (nLc + 11) + rm.locals ≤ R.locals) (hrc : rm.cells = 0 ∧ rm.slots = 0) (hcat : (rest.map fun v => v.category).sum ≤ 8) (k : G p l e R s m args below meth c D A nL Q wf (pc + 3) lo (rest) w1) : G p l e R s m args below meth c D A nL Q wf pc lo st w := by
  intro H locs ls hl hP hD hS
  refine va_callv (va_runV (As := As) (rest := rest) ⟨X.1, X.2.1, X.2.2.1, X.2.2.2.1, X.2.2.2.2.1⟩ hM (cwV n X.2.2.2.2.1 (gd_V hy hw) rfl hrc.1 hrc.2 hy.2 hR) ⟨gB_blind, va_recv X.2.2.2.2.2.1 hP hc he, fun U hU hW => ⟨rfl, by rw [hU]; exact hP, va_K.moved hW.alike X.2.2.2.2.2.1, hD⟩⟩ rfl hn hl.1 hst (lv_room hcat) d ⟨Nat.zero_le _, Nat.zero_le _⟩) hS (fun _ _ h => h) (fun _ h => h)
    (fun u t H1 locs1 ht hvm hpost hB hz hk hS1 => ?_)
  exact k H1 locs1 ls hl (by rw [← ht]; exact hB.1) hB.2 hS1
theorem g_Sv (X : gX p s m args meth c cc nL own D cI) {y : MethodName} {b : ByteArray} {nLc n idx : Nat} {ret : Option FieldType} {rm : Room} {As st rest : List Value} {w1 : St} (hM : CTv l D cI A y b nLc ret rm As (wf w) (wf w1)) (d : decode cc pc = .ok (.invokestatic idx, 3)) (hw : Cond.methodLink own idx y ∈ lw_g) (hy : yS y b nLc ret n) (hst : st = As.reverse ++ rest) (hn : As.length = n) (hR : rm.frames + 1 ≤ R.frames ∧ 8 + (nLc + 11) + rm.locals ≤ R.locals) (hrc : rm.cells = 0 ∧ rm.slots = 0) (hcat : (rest.map fun v => v.category).sum ≤ 8) (k : G p l e R s m args below meth c D A nL Q wf (pc + 3) lo (rest) w1) : G p l e R s m args below meth c D A nL Q wf pc lo st w := by
  intro H locs ls hl hP hD hS
  refine va_callv (va_runS (As := As) (rest := rest) ⟨X.1, X.2.1, X.2.2.1, X.2.2.2.1, X.2.2.2.2.1⟩ hM (va_cwS n X.2.2.2.2.1 (gd_S hy hw) rfl hrc.1 hrc.2 hy.2 hR) ⟨gB_blind, fun U hU hW => ⟨rfl, by rw [hU]; exact hP, va_K.moved hW.alike X.2.2.2.2.2.1, hD⟩⟩ rfl hn hl.1 hst (lv_room hcat) d ⟨Nat.zero_le _, Nat.zero_le _⟩) hS (fun _ _ h => h) (fun _ h => h)
    (fun u t H1 locs1 ht hvm hpost hB hz hk hS1 => ?_)
  exact k H1 locs1 ls hl (by rw [← ht]; exact hB.1) hB.2 hS1
theorem g_Nv (X : gX p s m args meth c cc nL own D cI) {y : MethodName} {b : ByteArray} {nLc n idx : Nat} {host : String} {ret : Option FieldType} {rm : Room} {As st rest : List Value} {w1 : St} (hM : CTv l D cI A y b nLc ret rm As (wf w) (wf w1)) (d : decode cc pc = .ok (.invokestatic idx, 3)) (hw : Cond.methodLinkNest own idx y host ∈ lw_g) (hy : yS y b nLc ret n) (hst : st = As.reverse ++ rest) (hn : As.length = n) (hR : rm.frames + 1 ≤ R.frames ∧ 8 + (nLc + 11) + rm.locals ≤ R.locals) (hrc : rm.cells = 0 ∧ rm.slots = 0) (hcat : (rest.map fun v => v.category).sum ≤ 8) (k : G p l e R s m args below meth c D A nL Q wf (pc + 3) lo (rest) w1) : G p l e R s m args below meth c D A nL Q wf pc lo st w := by
  intro H locs ls hl hP hD hS
  refine va_callv (va_runSN (As := As) (rest := rest) ⟨X.1, X.2.1, X.2.2.1, X.2.2.2.1, X.2.2.2.2.1⟩ hM ⟨va_cnB n X.2.2.2.2.1 (gd_N hy) rfl hrc.1 hrc.2 (va_Nw.of rfl (X.2.2.2.2.1 _ hw)) (X.2.2.2.2.1 _ hy.1.2.1) hy.2 hR, X.2.2.2.2.1 _ hy.1.1, trivial⟩ ⟨gB_blind, fun U hU hW => ⟨rfl, by rw [hU]; exact hP, va_K.moved hW.alike X.2.2.2.2.2.1, hD⟩⟩ rfl hn hl.1 hst (lv_room hcat) d ⟨Nat.zero_le _, Nat.zero_le _⟩) hS (fun _ _ h => h) (fun _ h => h)
    (fun u t H1 locs1 ht hvm hpost hB hz hk hS1 => ?_)
  exact k H1 locs1 ls hl (by rw [← ht]; exact hB.1) hB.2 hS1
theorem g_iret (X : gX p s m args meth c cc nL own D cI) (hr : meth.sig.returnType = some .int) {x : Int32} {o : Int32 × St} (d : decode cc pc = .ok (.ireturn, 1)) (hf : some (x, w) = some o) : G p l e R s m args below meth c D A nL (MQ below (qcI D A o.1 (wf o.2)) args s 0 0 A) wf pc lo [.int x] w := by
  cases hf
  intro H locs ls hl hP hD hS
  exact W.iret X.1 X.2.1 hr (fun t ht hW => ⟨⟨x, (), rfl, rfl, by rw [ht]; exact hP, hD⟩, hS.F ht⟩) hS.2.2 d X.2.2.2.2.2.2
theorem g_zret (X : gX p s m args meth c cc nL own D cI) (hr : meth.sig.returnType = some .boolean) {x : Int32} {o : Int32 × St} (d : decode cc pc = .ok (.ireturn, 1)) (hn : narrow .boolean (.int x) = .int x) (hf : some (x, w) = some o) : G p l e R s m args below meth c D A nL (MQ below (qcI D A o.1 (wf o.2)) args s 0 0 A) wf pc lo [.int x] w := by
  cases hf
  intro H locs ls hl hP hD hS
  exact W.zret X.1 X.2.1 hr hn (fun t ht hW => ⟨⟨x, (), rfl, rfl, by rw [ht]; exact hP, hD⟩, hS.F ht⟩) hS.2.2 d X.2.2.2.2.2.2
theorem g_vret (X : gX p s m args meth c cc nL own D cI) (hr : meth.sig.returnType = none) {x : Int32} {o : Int32 × St} (d : decode cc pc = .ok (.return_, 1)) (hf : some (x, w) = some o) : G p l e R s m args below meth c D A nL (MQ below (qcV D A (wf o.2)) args s 0 0 A) wf pc lo [] w := by
  cases hf
  intro H locs ls hl hP hD hS
  exact W.vret X.1 X.2.1 hr (fun t ht hW => ⟨⟨(), rfl, trivial, by rw [ht]; exact hP, hD⟩, hS.F ht⟩) hS.2.2 d X.2.2.2.2.2.2
theorem zb {x : Int32} (h : x = 0 ∨ x = 1) : narrow .boolean (.int x) = .int x := by rcases h with rfl | rfl <;> rfl
end GG
end
