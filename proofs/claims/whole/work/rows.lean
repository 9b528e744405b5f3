section
-- ===== PART A: goes FIRST, ahead of the names: the tables' words, and 'selects' of the private methods out of them =====
/-- a private method of a class that the tables say can be made, by its rows of tables_1 -/
def lw_okq (q : MethodName × Nat) : Prop := (q.1.cls ≠ "java/lang/invoke/MethodHandle" ∧ q.1.cls ≠ "java/lang/invoke/VarHandle") ∧ Cond.instantiable q.1.cls q.2 ∈ tables_1 ∧ Cond.privateMethod q.1 ∈ tables_1 ∧ Cond.instanceMethod q.1 ∈ tables_1
theorem lw_p0 : lw_okq (⟨"DoubtCatcher", "tryPad", "()I"⟩, 10) := ⟨⟨by decide +kernel, by decide +kernel⟩, List.mem_of_getElem? (i := 17) (by decide +kernel), List.mem_of_getElem? (i := 346) (by decide +kernel), List.mem_of_getElem? (i := 347) (by decide +kernel)⟩
theorem lw_p1 : lw_okq (⟨"DoubtCatcher$Town", "passWeek", "()V"⟩, 9) := ⟨⟨by decide +kernel, by decide +kernel⟩, List.mem_of_getElem? (i := 25) (by decide +kernel), List.mem_of_getElem? (i := 392) (by decide +kernel), List.mem_of_getElem? (i := 393) (by decide +kernel)⟩
theorem lw_p2 : lw_okq (⟨"DoubtCatcher$Town", "wander", "()V"⟩, 9) := ⟨⟨by decide +kernel, by decide +kernel⟩, List.mem_of_getElem? (i := 25) (by decide +kernel), List.mem_of_getElem? (i := 406) (by decide +kernel), List.mem_of_getElem? (i := 407) (by decide +kernel)⟩
theorem lw_p3 : lw_okq (⟨"DoubtCatcher$Town", "quietestOf", "(I)I"⟩, 9) := ⟨⟨by decide +kernel, by decide +kernel⟩, List.mem_of_getElem? (i := 25) (by decide +kernel), List.mem_of_getElem? (i := 410) (by decide +kernel), List.mem_of_getElem? (i := 411) (by decide +kernel)⟩
theorem lw_p4 : lw_okq (⟨"DoubtCatcher$Telling", "noteRid", "(II)V"⟩, 5) := ⟨⟨by decide +kernel, by decide +kernel⟩, List.mem_of_getElem? (i := 103) (by decide +kernel), List.mem_of_getElem? (i := 415) (by decide +kernel), List.mem_of_getElem? (i := 416) (by decide +kernel)⟩
theorem lw_p5 : lw_okq (⟨"DoubtCatcher$Hearing", "compare", "(III)V"⟩, 4) := ⟨⟨by decide +kernel, by decide +kernel⟩, List.mem_of_getElem? (i := 177) (by decide +kernel), List.mem_of_getElem? (i := 469) (by decide +kernel), List.mem_of_getElem? (i := 470) (by decide +kernel)⟩
theorem lw_p6 : lw_okq (⟨"DoubtCatcher$Hearing", "offer", "(III)V"⟩, 4) := ⟨⟨by decide +kernel, by decide +kernel⟩, List.mem_of_getElem? (i := 177) (by decide +kernel), List.mem_of_getElem? (i := 474) (by decide +kernel), List.mem_of_getElem? (i := 475) (by decide +kernel)⟩
theorem lw_p7 : lw_okq (⟨"DoubtCatcher$Asking", "gather", "(LDoubtCatcher$Sights;)V"⟩, 6) := ⟨⟨by decide +kernel, by decide +kernel⟩, List.mem_of_getElem? (i := 150) (by decide +kernel), List.mem_of_getElem? (i := 514) (by decide +kernel), List.mem_of_getElem? (i := 515) (by decide +kernel)⟩
theorem lw_p8 : lw_okq (⟨"DoubtCatcher$Asking", "mostAlike", "()I"⟩, 6) := ⟨⟨by decide +kernel, by decide +kernel⟩, List.mem_of_getElem? (i := 150) (by decide +kernel), List.mem_of_getElem? (i := 519) (by decide +kernel), List.mem_of_getElem? (i := 520) (by decide +kernel)⟩
theorem lw_p9 : lw_okq (⟨"DoubtCatcher$Asking", "breedAll", "()V"⟩, 6) := ⟨⟨by decide +kernel, by decide +kernel⟩, List.mem_of_getElem? (i := 150) (by decide +kernel), List.mem_of_getElem? (i := 526) (by decide +kernel), List.mem_of_getElem? (i := 527) (by decide +kernel)⟩
theorem lw_p10 : lw_okq (⟨"DoubtCatcher$Hunt", "shutIn", "()V"⟩, 5) := ⟨⟨by decide +kernel, by decide +kernel⟩, List.mem_of_getElem? (i := 198) (by decide +kernel), List.mem_of_getElem? (i := 539) (by decide +kernel), List.mem_of_getElem? (i := 540) (by decide +kernel)⟩
theorem lw_p11 : lw_okq (⟨"DoubtCatcher$Hunt", "firstGoing", "(II)I"⟩, 5) := ⟨⟨by decide +kernel, by decide +kernel⟩, List.mem_of_getElem? (i := 198) (by decide +kernel), List.mem_of_getElem? (i := 543) (by decide +kernel), List.mem_of_getElem? (i := 544) (by decide +kernel)⟩
theorem lw_p12 : lw_okq (⟨"DoubtCatcher$Hunt", "widen", "()Z"⟩, 5) := ⟨⟨by decide +kernel, by decide +kernel⟩, List.mem_of_getElem? (i := 198) (by decide +kernel), List.mem_of_getElem? (i := 547) (by decide +kernel), List.mem_of_getElem? (i := 548) (by decide +kernel)⟩
theorem lw_p13 : lw_okq (⟨"DoubtCatcherModel", "bore", "(IIZ)V"⟩, 34) := ⟨⟨by decide +kernel, by decide +kernel⟩, List.mem_of_getElem? (i := 598) (by decide +kernel), List.mem_of_getElem? (i := 725) (by decide +kernel), List.mem_of_getElem? (i := 726) (by decide +kernel)⟩
theorem lw_p14 : lw_okq (⟨"DoubtCatcherModel", "begin", "(I)I"⟩, 34) := ⟨⟨by decide +kernel, by decide +kernel⟩, List.mem_of_getElem? (i := 598) (by decide +kernel), List.mem_of_getElem? (i := 753) (by decide +kernel), List.mem_of_getElem? (i := 754) (by decide +kernel)⟩
theorem lw_p15 : lw_okq (⟨"DoubtCatcherModel", "close", "(I)I"⟩, 34) := ⟨⟨by decide +kernel, by decide +kernel⟩, List.mem_of_getElem? (i := 598) (by decide +kernel), List.mem_of_getElem? (i := 762) (by decide +kernel), List.mem_of_getElem? (i := 763) (by decide +kernel)⟩
def lw_privs_1 : List (MethodName × Nat) := [(⟨"DoubtCatcher", "tryPad", "()I"⟩, 10), (⟨"DoubtCatcher$Town", "passWeek", "()V"⟩, 9), (⟨"DoubtCatcher$Town", "wander", "()V"⟩, 9), (⟨"DoubtCatcher$Town", "quietestOf", "(I)I"⟩, 9), (⟨"DoubtCatcher$Telling", "noteRid", "(II)V"⟩, 5), (⟨"DoubtCatcher$Hearing", "compare", "(III)V"⟩, 4), (⟨"DoubtCatcher$Hearing", "offer", "(III)V"⟩, 4), (⟨"DoubtCatcher$Asking", "gather", "(LDoubtCatcher$Sights;)V"⟩, 6), (⟨"DoubtCatcher$Asking", "mostAlike", "()I"⟩, 6), (⟨"DoubtCatcher$Asking", "breedAll", "()V"⟩, 6), (⟨"DoubtCatcher$Hunt", "shutIn", "()V"⟩, 5), (⟨"DoubtCatcher$Hunt", "firstGoing", "(II)I"⟩, 5), (⟨"DoubtCatcher$Hunt", "widen", "()Z"⟩, 5), (⟨"DoubtCatcherModel", "bore", "(IIZ)V"⟩, 34), (⟨"DoubtCatcherModel", "begin", "(I)I"⟩, 34), (⟨"DoubtCatcherModel", "close", "(I)I"⟩, 34)]
theorem lw_r1 : ∀ q ∈ lw_privs_1, lw_okq q := List.forall_mem_cons.mpr ⟨lw_p0, List.forall_mem_cons.mpr ⟨lw_p1, List.forall_mem_cons.mpr ⟨lw_p2, List.forall_mem_cons.mpr ⟨lw_p3, List.forall_mem_cons.mpr ⟨lw_p4, List.forall_mem_cons.mpr ⟨lw_p5, List.forall_mem_cons.mpr ⟨lw_p6, List.forall_mem_cons.mpr ⟨lw_p7, List.forall_mem_cons.mpr ⟨lw_p8, List.forall_mem_cons.mpr ⟨lw_p9, List.forall_mem_cons.mpr ⟨lw_p10, List.forall_mem_cons.mpr ⟨lw_p11, List.forall_mem_cons.mpr ⟨lw_p12, List.forall_mem_cons.mpr ⟨lw_p13, List.forall_mem_cons.mpr ⟨lw_p14, List.forall_mem_cons.mpr ⟨lw_p15, fun _ h => absurd h List.not_mem_nil⟩⟩⟩⟩⟩⟩⟩⟩⟩⟩⟩⟩⟩⟩⟩⟩
theorem lw_p16 : lw_okq (⟨"DoubtCatcherModel", "deed", "(I)I"⟩, 34) := ⟨⟨by decide +kernel, by decide +kernel⟩, List.mem_of_getElem? (i := 598) (by decide +kernel), List.mem_of_getElem? (i := 766) (by decide +kernel), List.mem_of_getElem? (i := 767) (by decide +kernel)⟩
theorem lw_p17 : lw_okq (⟨"DoubtCatcherModel", "end", "(II)I"⟩, 34) := ⟨⟨by decide +kernel, by decide +kernel⟩, List.mem_of_getElem? (i := 598) (by decide +kernel), List.mem_of_getElem? (i := 770) (by decide +kernel), List.mem_of_getElem? (i := 771) (by decide +kernel)⟩
theorem lw_p18 : lw_okq (⟨"DoubtCatcherModel", "refusal", "()I"⟩, 34) := ⟨⟨by decide +kernel, by decide +kernel⟩, List.mem_of_getElem? (i := 598) (by decide +kernel), List.mem_of_getElem? (i := 779) (by decide +kernel), List.mem_of_getElem? (i := 780) (by decide +kernel)⟩
theorem lw_p19 : lw_okq (⟨"DoubtCatcherModel", "keepNow", "()V"⟩, 34) := ⟨⟨by decide +kernel, by decide +kernel⟩, List.mem_of_getElem? (i := 598) (by decide +kernel), List.mem_of_getElem? (i := 783) (by decide +kernel), List.mem_of_getElem? (i := 784) (by decide +kernel)⟩
theorem lw_p20 : lw_okq (⟨"DoubtCatcherModel", "goWeeks", "()V"⟩, 34) := ⟨⟨by decide +kernel, by decide +kernel⟩, List.mem_of_getElem? (i := 598) (by decide +kernel), List.mem_of_getElem? (i := 788) (by decide +kernel), List.mem_of_getElem? (i := 789) (by decide +kernel)⟩
theorem lw_p21 : lw_okq (⟨"DoubtCatcherModel", "whyNot", "(III)I"⟩, 34) := ⟨⟨by decide +kernel, by decide +kernel⟩, List.mem_of_getElem? (i := 598) (by decide +kernel), List.mem_of_getElem? (i := 792) (by decide +kernel), List.mem_of_getElem? (i := 793) (by decide +kernel)⟩
theorem lw_p22 : lw_okq (⟨"DoubtCatcherModel", "goOne", "(I)V"⟩, 34) := ⟨⟨by decide +kernel, by decide +kernel⟩, List.mem_of_getElem? (i := 598) (by decide +kernel), List.mem_of_getElem? (i := 796) (by decide +kernel), List.mem_of_getElem? (i := 797) (by decide +kernel)⟩
theorem lw_p23 : lw_okq (⟨"DoubtCatcherModel", "clear", "()I"⟩, 34) := ⟨⟨by decide +kernel, by decide +kernel⟩, List.mem_of_getElem? (i := 598) (by decide +kernel), List.mem_of_getElem? (i := 800) (by decide +kernel), List.mem_of_getElem? (i := 801) (by decide +kernel)⟩
theorem lw_p24 : lw_okq (⟨"DoubtCatcherModel", "happen", "(III)V"⟩, 34) := ⟨⟨by decide +kernel, by decide +kernel⟩, List.mem_of_getElem? (i := 598) (by decide +kernel), List.mem_of_getElem? (i := 804) (by decide +kernel), List.mem_of_getElem? (i := 805) (by decide +kernel)⟩
theorem lw_p25 : lw_okq (⟨"DoubtCatcherModel", "breed", "()V"⟩, 34) := ⟨⟨by decide +kernel, by decide +kernel⟩, List.mem_of_getElem? (i := 598) (by decide +kernel), List.mem_of_getElem? (i := 814) (by decide +kernel), List.mem_of_getElem? (i := 815) (by decide +kernel)⟩
theorem lw_p26 : lw_okq (⟨"DoubtCatcherModel", "go", "()V"⟩, 34) := ⟨⟨by decide +kernel, by decide +kernel⟩, List.mem_of_getElem? (i := 598) (by decide +kernel), List.mem_of_getElem? (i := 821) (by decide +kernel), List.mem_of_getElem? (i := 822) (by decide +kernel)⟩
theorem lw_p27 : lw_okq (⟨"DoubtCatcherModel", "goal", "(I)I"⟩, 34) := ⟨⟨by decide +kernel, by decide +kernel⟩, List.mem_of_getElem? (i := 598) (by decide +kernel), List.mem_of_getElem? (i := 825) (by decide +kernel), List.mem_of_getElem? (i := 826) (by decide +kernel)⟩
theorem lw_p28 : lw_okq (⟨"DoubtCatcherModel", "back", "(I)I"⟩, 34) := ⟨⟨by decide +kernel, by decide +kernel⟩, List.mem_of_getElem? (i := 598) (by decide +kernel), List.mem_of_getElem? (i := 832) (by decide +kernel), List.mem_of_getElem? (i := 833) (by decide +kernel)⟩
theorem lw_p29 : lw_okq (⟨"DoubtCatcherModel", "ofHouse", "(II)I"⟩, 34) := ⟨⟨by decide +kernel, by decide +kernel⟩, List.mem_of_getElem? (i := 598) (by decide +kernel), List.mem_of_getElem? (i := 841) (by decide +kernel), List.mem_of_getElem? (i := 842) (by decide +kernel)⟩
theorem lw_p30 : lw_okq (⟨"DoubtCatcherModel", "ofTown", "(I)I"⟩, 34) := ⟨⟨by decide +kernel, by decide +kernel⟩, List.mem_of_getElem? (i := 598) (by decide +kernel), List.mem_of_getElem? (i := 850) (by decide +kernel), List.mem_of_getElem? (i := 851) (by decide +kernel)⟩
theorem lw_p31 : lw_okq (⟨"DoubtCatcherModel", "allDoubts", "()I"⟩, 34) := ⟨⟨by decide +kernel, by decide +kernel⟩, List.mem_of_getElem? (i := 598) (by decide +kernel), List.mem_of_getElem? (i := 854) (by decide +kernel), List.mem_of_getElem? (i := 855) (by decide +kernel)⟩
def lw_privs_2 : List (MethodName × Nat) := [(⟨"DoubtCatcherModel", "deed", "(I)I"⟩, 34), (⟨"DoubtCatcherModel", "end", "(II)I"⟩, 34), (⟨"DoubtCatcherModel", "refusal", "()I"⟩, 34), (⟨"DoubtCatcherModel", "keepNow", "()V"⟩, 34), (⟨"DoubtCatcherModel", "goWeeks", "()V"⟩, 34), (⟨"DoubtCatcherModel", "whyNot", "(III)I"⟩, 34), (⟨"DoubtCatcherModel", "goOne", "(I)V"⟩, 34), (⟨"DoubtCatcherModel", "clear", "()I"⟩, 34), (⟨"DoubtCatcherModel", "happen", "(III)V"⟩, 34), (⟨"DoubtCatcherModel", "breed", "()V"⟩, 34), (⟨"DoubtCatcherModel", "go", "()V"⟩, 34), (⟨"DoubtCatcherModel", "goal", "(I)I"⟩, 34), (⟨"DoubtCatcherModel", "back", "(I)I"⟩, 34), (⟨"DoubtCatcherModel", "ofHouse", "(II)I"⟩, 34), (⟨"DoubtCatcherModel", "ofTown", "(I)I"⟩, 34), (⟨"DoubtCatcherModel", "allDoubts", "()I"⟩, 34)]
theorem lw_r2 : ∀ q ∈ lw_privs_2, lw_okq q := List.forall_mem_cons.mpr ⟨lw_p16, List.forall_mem_cons.mpr ⟨lw_p17, List.forall_mem_cons.mpr ⟨lw_p18, List.forall_mem_cons.mpr ⟨lw_p19, List.forall_mem_cons.mpr ⟨lw_p20, List.forall_mem_cons.mpr ⟨lw_p21, List.forall_mem_cons.mpr ⟨lw_p22, List.forall_mem_cons.mpr ⟨lw_p23, List.forall_mem_cons.mpr ⟨lw_p24, List.forall_mem_cons.mpr ⟨lw_p25, List.forall_mem_cons.mpr ⟨lw_p26, List.forall_mem_cons.mpr ⟨lw_p27, List.forall_mem_cons.mpr ⟨lw_p28, List.forall_mem_cons.mpr ⟨lw_p29, List.forall_mem_cons.mpr ⟨lw_p30, List.forall_mem_cons.mpr ⟨lw_p31, fun _ h => absurd h List.not_mem_nil⟩⟩⟩⟩⟩⟩⟩⟩⟩⟩⟩⟩⟩⟩⟩⟩
theorem lw_p32 : lw_okq (⟨"DoubtCatcherModel", "isWatched", "(I)Z"⟩, 34) := ⟨⟨by decide +kernel, by decide +kernel⟩, List.mem_of_getElem? (i := 598) (by decide +kernel), List.mem_of_getElem? (i := 874) (by decide +kernel), List.mem_of_getElem? (i := 875) (by decide +kernel)⟩
theorem lw_p33 : lw_okq (⟨"DoubtCatcherModel", "lengthFrom", "(III)I"⟩, 34) := ⟨⟨by decide +kernel, by decide +kernel⟩, List.mem_of_getElem? (i := 598) (by decide +kernel), List.mem_of_getElem? (i := 888) (by decide +kernel), List.mem_of_getElem? (i := 889) (by decide +kernel)⟩
theorem lw_p34 : lw_okq (⟨"DoubtCatcherModel", "leastRow", "(I)I"⟩, 34) := ⟨⟨by decide +kernel, by decide +kernel⟩, List.mem_of_getElem? (i := 598) (by decide +kernel), List.mem_of_getElem? (i := 892) (by decide +kernel), List.mem_of_getElem? (i := 893) (by decide +kernel)⟩
theorem lw_p35 : lw_okq (⟨"DoubtCatcherModel", "inOne", "(III)I"⟩, 34) := ⟨⟨by decide +kernel, by decide +kernel⟩, List.mem_of_getElem? (i := 598) (by decide +kernel), List.mem_of_getElem? (i := 896) (by decide +kernel), List.mem_of_getElem? (i := 897) (by decide +kernel)⟩
theorem lw_p36 : lw_okq (⟨"DoubtCatcherModel", "inTwo", "(III)I"⟩, 34) := ⟨⟨by decide +kernel, by decide +kernel⟩, List.mem_of_getElem? (i := 598) (by decide +kernel), List.mem_of_getElem? (i := 900) (by decide +kernel), List.mem_of_getElem? (i := 901) (by decide +kernel)⟩
theorem lw_p37 : lw_okq (⟨"DoubtCatcherModel", "isFit", "(I)Z"⟩, 34) := ⟨⟨by decide +kernel, by decide +kernel⟩, List.mem_of_getElem? (i := 598) (by decide +kernel), List.mem_of_getElem? (i := 917) (by decide +kernel), List.mem_of_getElem? (i := 918) (by decide +kernel)⟩
theorem lw_p38 : lw_okq (⟨"DoubtCatcherModel", "mostLeft", "(I)I"⟩, 34) := ⟨⟨by decide +kernel, by decide +kernel⟩, List.mem_of_getElem? (i := 598) (by decide +kernel), List.mem_of_getElem? (i := 928) (by decide +kernel), List.mem_of_getElem? (i := 929) (by decide +kernel)⟩
theorem lw_p39 : lw_okq (⟨"DoubtCatcherModel", "oneGoingMore", "(I)Z"⟩, 34) := ⟨⟨by decide +kernel, by decide +kernel⟩, List.mem_of_getElem? (i := 598) (by decide +kernel), List.mem_of_getElem? (i := 936) (by decide +kernel), List.mem_of_getElem? (i := 937) (by decide +kernel)⟩
theorem lw_p40 : lw_okq (⟨"DoubtCatcherModel", "sureGoing", "(III)I"⟩, 34) := ⟨⟨by decide +kernel, by decide +kernel⟩, List.mem_of_getElem? (i := 598) (by decide +kernel), List.mem_of_getElem? (i := 940) (by decide +kernel), List.mem_of_getElem? (i := 941) (by decide +kernel)⟩
theorem lw_p41 : lw_okq (⟨"DoubtCatcherModel", "isSure", "(III)Z"⟩, 34) := ⟨⟨by decide +kernel, by decide +kernel⟩, List.mem_of_getElem? (i := 598) (by decide +kernel), List.mem_of_getElem? (i := 944) (by decide +kernel), List.mem_of_getElem? (i := 945) (by decide +kernel)⟩
theorem lw_p42 : lw_okq (⟨"DoubtCatcherModel", "passAll", "()V"⟩, 34) := ⟨⟨by decide +kernel, by decide +kernel⟩, List.mem_of_getElem? (i := 598) (by decide +kernel), List.mem_of_getElem? (i := 979) (by decide +kernel), List.mem_of_getElem? (i := 980) (by decide +kernel)⟩
theorem lw_p43 : lw_okq (⟨"DoubtCatcherModel", "pass", "(I)I"⟩, 34) := ⟨⟨by decide +kernel, by decide +kernel⟩, List.mem_of_getElem? (i := 598) (by decide +kernel), List.mem_of_getElem? (i := 983) (by decide +kernel), List.mem_of_getElem? (i := 984) (by decide +kernel)⟩
theorem lw_p44 : lw_okq (⟨"DoubtCatcherModel", "passRow", "([II)V"⟩, 34) := ⟨⟨by decide +kernel, by decide +kernel⟩, List.mem_of_getElem? (i := 598) (by decide +kernel), List.mem_of_getElem? (i := 987) (by decide +kernel), List.mem_of_getElem? (i := 988) (by decide +kernel)⟩
def lw_privs_3 : List (MethodName × Nat) := [(⟨"DoubtCatcherModel", "isWatched", "(I)Z"⟩, 34), (⟨"DoubtCatcherModel", "lengthFrom", "(III)I"⟩, 34), (⟨"DoubtCatcherModel", "leastRow", "(I)I"⟩, 34), (⟨"DoubtCatcherModel", "inOne", "(III)I"⟩, 34), (⟨"DoubtCatcherModel", "inTwo", "(III)I"⟩, 34), (⟨"DoubtCatcherModel", "isFit", "(I)Z"⟩, 34), (⟨"DoubtCatcherModel", "mostLeft", "(I)I"⟩, 34), (⟨"DoubtCatcherModel", "oneGoingMore", "(I)Z"⟩, 34), (⟨"DoubtCatcherModel", "sureGoing", "(III)I"⟩, 34), (⟨"DoubtCatcherModel", "isSure", "(III)Z"⟩, 34), (⟨"DoubtCatcherModel", "passAll", "()V"⟩, 34), (⟨"DoubtCatcherModel", "pass", "(I)I"⟩, 34), (⟨"DoubtCatcherModel", "passRow", "([II)V"⟩, 34)]
theorem lw_r3 : ∀ q ∈ lw_privs_3, lw_okq q := List.forall_mem_cons.mpr ⟨lw_p32, List.forall_mem_cons.mpr ⟨lw_p33, List.forall_mem_cons.mpr ⟨lw_p34, List.forall_mem_cons.mpr ⟨lw_p35, List.forall_mem_cons.mpr ⟨lw_p36, List.forall_mem_cons.mpr ⟨lw_p37, List.forall_mem_cons.mpr ⟨lw_p38, List.forall_mem_cons.mpr ⟨lw_p39, List.forall_mem_cons.mpr ⟨lw_p40, List.forall_mem_cons.mpr ⟨lw_p41, List.forall_mem_cons.mpr ⟨lw_p42, List.forall_mem_cons.mpr ⟨lw_p43, List.forall_mem_cons.mpr ⟨lw_p44, fun _ h => absurd h List.not_mem_nil⟩⟩⟩⟩⟩⟩⟩⟩⟩⟩⟩⟩⟩
def lw_privs : List (MethodName × Nat) := lw_privs_1 ++ (lw_privs_2 ++ (lw_privs_3))
def lw_tbl : List Cond := k2_sels lw_privs ++ tables_1
theorem lw_privs_ok : ∀ q ∈ lw_privs, lw_okq q := by
  show ∀ q ∈ lw_privs_1 ++ (lw_privs_2 ++ (lw_privs_3)), lw_okq q
  exact List.forall_mem_append.mpr ⟨lw_r1, List.forall_mem_append.mpr ⟨lw_r2, lw_r3⟩⟩
end
section
/-! ===== BEGIN printed: names, fields, word lists, decode rows ===== -/
def RX0 : String := "DoubtCatcher$Act"
def TX0 : u_T := fun k => match k with
  | 0 => ("DoubtCatcher$Act", "sign", "I", false)
  | 1 => ("DoubtCatcher$Act", "house", "I", false)
  | _ => ("DoubtCatcher$Act", "other", "I", false)
def tyX0 : Nat → FieldType := fun k => match k with
  | 0 => .int
  | 1 => .int
  | _ => .int
abbrev wsX00 : List Cond := u_ws RX0 TX0 3
theorem nmX0 : ∀ a, a < 3 → ∀ b, b < 3 → a ≠ b → (TX0 a).2.1 ≠ (TX0 b).2.1 := by decide +kernel
theorem tyX0_ok : ∀ k, k < 3 → parseFieldDescriptor (TX0 k).2.2.1 = some (tyX0 k) := by decide +kernel
abbrev cX0_init : ByteArray := prog_2_method_1_code
def yX0_init : MethodName := ⟨RX0, "<init>", "()V"⟩
abbrev cX0_read : ByteArray := prog_2_method_2_code
def yX0_read : MethodName := ⟨RX0, "read", "(LDoubtCatcher$Pad;I)I"⟩
abbrev cX0_draw : ByteArray := prog_2_method_3_code
def yX0_draw : MethodName := ⟨RX0, "draw", "(I)V"⟩
def RX1 : String := "DoubtCatcher$Asking"
def TX1 : u_T := fun k => match k with
  | 0 => ("DoubtCatcher$Asking", "doubts", "[I", true)
  | 1 => ("DoubtCatcher$Asking", "crumbs", "[I", true)
  | 2 => ("DoubtCatcher$Asking", "alike", "[I", true)
  | 3 => ("DoubtCatcher$Asking", "count", "I", false)
  | 4 => ("DoubtCatcher$Asking", "week", "I", false)
  | _ => ("DoubtCatcher$Asking", "left", "I", false)
def tyX1 : Nat → FieldType := fun k => match k with
  | 0 => .array .int
  | 1 => .array .int
  | 2 => .array .int
  | 3 => .int
  | 4 => .int
  | _ => .int
abbrev wsX10 : List Cond := u_ws RX1 TX1 6
theorem nmX1 : ∀ a, a < 6 → ∀ b, b < 6 → a ≠ b → (TX1 a).2.1 ≠ (TX1 b).2.1 := by decide +kernel
theorem tyX1_ok : ∀ k, k < 6 → parseFieldDescriptor (TX1 k).2.2.1 = some (tyX1 k) := by decide +kernel
abbrev cX1_init : ByteArray := prog_3_method_1_code
def yX1_init : MethodName := ⟨RX1, "<init>", "()V"⟩
abbrev cX1_weigh : ByteArray := prog_3_method_2_code
def yX1_weigh : MethodName := ⟨RX1, "weigh", "(LDoubtCatcher$Sights;)V"⟩
abbrev cX1_gather : ByteArray := prog_3_method_3_code
def yX1_gather : MethodName := ⟨RX1, "gather", "(LDoubtCatcher$Sights;)V"⟩
abbrev cX1_mostAlike : ByteArray := prog_3_method_4_code
def yX1_mostAlike : MethodName := ⟨RX1, "mostAlike", "()I"⟩
abbrev cX1_breedAll : ByteArray := prog_3_method_5_code
def yX1_breedAll : MethodName := ⟨RX1, "breedAll", "()V"⟩
def RX2 : String := "DoubtCatcher$Hearing"
def TX2 : u_T := fun k => match k with
  | 0 => ("DoubtCatcher$Hearing", "lengths", "[I", true)
  | 1 => ("DoubtCatcher$Hearing", "numbers", "[I", true)
  | 2 => ("DoubtCatcher$Hearing", "length", "I", false)
  | _ => ("DoubtCatcher$Hearing", "number", "I", false)
def tyX2 : Nat → FieldType := fun k => match k with
  | 0 => .array .int
  | 1 => .array .int
  | 2 => .int
  | _ => .int
abbrev wsX20 : List Cond := u_ws RX2 TX2 4
theorem nmX2 : ∀ a, a < 4 → ∀ b, b < 4 → a ≠ b → (TX2 a).2.1 ≠ (TX2 b).2.1 := by decide +kernel
theorem tyX2_ok : ∀ k, k < 4 → parseFieldDescriptor (TX2 k).2.2.1 = some (tyX2 k) := by decide +kernel
abbrev cX2_init : ByteArray := prog_4_method_1_code
def yX2_init : MethodName := ⟨RX2, "<init>", "()V"⟩
abbrev cX2_listen : ByteArray := prog_4_method_2_code
def yX2_listen : MethodName := ⟨RX2, "listen", "(III)V"⟩
abbrev cX2_compare : ByteArray := prog_4_method_3_code
def yX2_compare : MethodName := ⟨RX2, "compare", "(III)V"⟩
abbrev cX2_offer : ByteArray := prog_4_method_4_code
def yX2_offer : MethodName := ⟨RX2, "offer", "(III)V"⟩
def RX3 : String := "DoubtCatcher$Hunt"
def TX3 : u_T := fun k => match k with
  | 0 => ("DoubtCatcher$Hunt", "near", "[I", true)
  | 1 => ("DoubtCatcher$Hunt", "lost", "[I", true)
  | 2 => ("DoubtCatcher$Hunt", "shut", "[I", true)
  | 3 => ("DoubtCatcher$Hunt", "goings", "I", false)
  | _ => ("DoubtCatcher$Hunt", "first", "I", false)
def tyX3 : Nat → FieldType := fun k => match k with
  | 0 => .array .int
  | 1 => .array .int
  | 2 => .array .int
  | 3 => .int
  | _ => .int
abbrev wsX30 : List Cond := u_ws RX3 TX3 5
theorem nmX3 : ∀ a, a < 5 → ∀ b, b < 5 → a ≠ b → (TX3 a).2.1 ≠ (TX3 b).2.1 := by decide +kernel
theorem tyX3_ok : ∀ k, k < 5 → parseFieldDescriptor (TX3 k).2.2.1 = some (tyX3 k) := by decide +kernel
abbrev cX3_init : ByteArray := prog_5_method_1_code
def yX3_init : MethodName := ⟨RX3, "<init>", "()V"⟩
abbrev cX3_follow : ByteArray := prog_5_method_2_code
def yX3_follow : MethodName := ⟨RX3, "follow", "([III)V"⟩
abbrev cX3_shutIn : ByteArray := prog_5_method_3_code
def yX3_shutIn : MethodName := ⟨RX3, "shutIn", "()V"⟩
abbrev cX3_firstGoing : ByteArray := prog_5_method_4_code
def yX3_firstGoing : MethodName := ⟨RX3, "firstGoing", "(II)I"⟩
abbrev cX3_widen : ByteArray := prog_5_method_5_code
def yX3_widen : MethodName := ⟨RX3, "widen", "()Z"⟩
def RX4 : String := "DoubtCatcher$Image"
def TX4 : u_T := fun k => match k with
  | 0 => ("DoubtCatcher$Image", "town", "LDoubtCatcher$Town;", true)
  | 1 => ("DoubtCatcher$Image", "sights", "LDoubtCatcher$Sights;", true)
  | _ => ("DoubtCatcher$Image", "kept", "Z", false)
def tyX4 : Nat → FieldType := fun k => match k with
  | 0 => .object "DoubtCatcher$Town"
  | 1 => .object "DoubtCatcher$Sights"
  | _ => .boolean
abbrev wsX40 : List Cond := u_ws RX4 TX4 3
theorem nmX4 : ∀ a, a < 3 → ∀ b, b < 3 → a ≠ b → (TX4 a).2.1 ≠ (TX4 b).2.1 := by decide +kernel
theorem tyX4_ok : ∀ k, k < 3 → parseFieldDescriptor (TX4 k).2.2.1 = some (tyX4 k) := by decide +kernel
abbrev cX4_init : ByteArray := prog_6_method_1_code
def yX4_init : MethodName := ⟨RX4, "<init>", "()V"⟩
def RX5 : String := "DoubtCatcher$Pad"
def TX5 : u_T := fun k => match k with
  | 0 => ("DoubtCatcher$Pad", "signs", "[I", true)
  | _ => ("DoubtCatcher$Pad", "count", "I", false)
def tyX5 : Nat → FieldType := fun k => match k with
  | 0 => .array .int
  | _ => .int
abbrev wsX50 : List Cond := u_ws RX5 TX5 2
theorem nmX5 : ∀ a, a < 2 → ∀ b, b < 2 → a ≠ b → (TX5 a).2.1 ≠ (TX5 b).2.1 := by decide +kernel
theorem tyX5_ok : ∀ k, k < 2 → parseFieldDescriptor (TX5 k).2.2.1 = some (tyX5 k) := by decide +kernel
abbrev cX5_init : ByteArray := prog_7_method_1_code
def yX5_init : MethodName := ⟨RX5, "<init>", "()V"⟩
abbrev cX5_add : ByteArray := prog_7_method_2_code
def yX5_add : MethodName := ⟨RX5, "add", "(I)Z"⟩
abbrev cX5_signAt : ByteArray := prog_7_method_3_code
def yX5_signAt : MethodName := ⟨RX5, "signAt", "(I)I"⟩
abbrev cX5_houseAt : ByteArray := prog_7_method_4_code
def yX5_houseAt : MethodName := ⟨RX5, "houseAt", "(I)I"⟩
abbrev cX5_faultPlace : ByteArray := prog_7_method_5_code
def yX5_faultPlace : MethodName := ⟨RX5, "faultPlace", "()I"⟩
abbrev cX5_awaitedBehind : ByteArray := prog_7_method_6_code
def yX5_awaitedBehind : MethodName := ⟨RX5, "awaitedBehind", "(II)I"⟩
abbrev cX5_isDeed : ByteArray := prog_7_method_7_code
def yX5_isDeed : MethodName := ⟨RX5, "isDeed", "(I)Z"⟩
def RX6 : String := "DoubtCatcher$Sights"
def TX6 : u_T := fun k => match k with
  | 0 => ("DoubtCatcher$Sights", "seen", "[I", true)
  | 1 => ("DoubtCatcher$Sights", "count", "I", false)
  | _ => ("DoubtCatcher$Sights", "lastWeek", "I", false)
def tyX6 : Nat → FieldType := fun k => match k with
  | 0 => .array .int
  | 1 => .int
  | _ => .int
abbrev wsX60 : List Cond := u_ws RX6 TX6 3
theorem nmX6 : ∀ a, a < 3 → ∀ b, b < 3 → a ≠ b → (TX6 a).2.1 ≠ (TX6 b).2.1 := by decide +kernel
theorem tyX6_ok : ∀ k, k < 3 → parseFieldDescriptor (TX6 k).2.2.1 = some (tyX6 k) := by decide +kernel
abbrev cX6_init : ByteArray := prog_8_method_1_code
def yX6_init : MethodName := ⟨RX6, "<init>", "()V"⟩
abbrev cX6_clear : ByteArray := prog_8_method_2_code
def yX6_clear : MethodName := ⟨RX6, "clear", "()V"⟩
abbrev cX6_become : ByteArray := prog_8_method_3_code
def yX6_become : MethodName := ⟨RX6, "become", "(LDoubtCatcher$Sights;)V"⟩
abbrev cX6_add : ByteArray := prog_8_method_4_code
def yX6_add : MethodName := ⟨RX6, "add", "(II)Z"⟩
abbrev cX6_agree : ByteArray := prog_8_method_5_code
def yX6_agree : MethodName := ⟨RX6, "agree", "(II)Z"⟩
def RX7 : String := "DoubtCatcher$Telling"
def TX7 : u_T := fun k => match k with
  | 0 => ("DoubtCatcher$Telling", "acts", "I", false)
  | 1 => ("DoubtCatcher$Telling", "badAct", "I", false)
  | 2 => ("DoubtCatcher$Telling", "why", "I", false)
  | 3 => ("DoubtCatcher$Telling", "ridAct", "I", false)
  | _ => ("DoubtCatcher$Telling", "ridHouse", "I", false)
def tyX7 : Nat → FieldType := fun k => match k with
  | 0 => .int
  | 1 => .int
  | 2 => .int
  | 3 => .int
  | _ => .int
abbrev wsX70 : List Cond := u_ws RX7 TX7 5
theorem nmX7 : ∀ a, a < 5 → ∀ b, b < 5 → a ≠ b → (TX7 a).2.1 ≠ (TX7 b).2.1 := by decide +kernel
theorem tyX7_ok : ∀ k, k < 5 → parseFieldDescriptor (TX7 k).2.2.1 = some (tyX7 k) := by decide +kernel
abbrev cX7_init : ByteArray := prog_9_method_1_code
def yX7_init : MethodName := ⟨RX7, "<init>", "()V"⟩
abbrev cX7_follow : ByteArray := prog_9_method_2_code
def yX7_follow : MethodName := ⟨RX7, "follow", "(LDoubtCatcher$Pad;LDoubtCatcher$Act;LDoubtCatcher$Town;)V"⟩
abbrev cX7_noteRid : ByteArray := prog_9_method_3_code
def yX7_noteRid : MethodName := ⟨RX7, "noteRid", "(II)V"⟩
def RX8 : String := "DoubtCatcher$Town"
def TX8 : u_T := fun k => match k with
  | 0 => ("DoubtCatcher$Town", "doubts", "[I", true)
  | 1 => ("DoubtCatcher$Town", "crumbs", "[I", true)
  | 2 => ("DoubtCatcher$Town", "cages", "[I", true)
  | 3 => ("DoubtCatcher$Town", "smells", "[I", true)
  | 4 => ("DoubtCatcher$Town", "holes", "[I", true)
  | 5 => ("DoubtCatcher$Town", "ahead", "[I", true)
  | 6 => ("DoubtCatcher$Town", "bag", "I", false)
  | 7 => ("DoubtCatcher$Town", "sack", "I", false)
  | _ => ("DoubtCatcher$Town", "week", "I", false)
def tyX8 : Nat → FieldType := fun k => match k with
  | 0 => .array .int
  | 1 => .array .int
  | 2 => .array .int
  | 3 => .array .int
  | 4 => .array .int
  | 5 => .array .int
  | 6 => .int
  | 7 => .int
  | _ => .int
abbrev wsX80 : List Cond := u_ws RX8 TX8 9
theorem nmX8 : ∀ a, a < 9 → ∀ b, b < 9 → a ≠ b → (TX8 a).2.1 ≠ (TX8 b).2.1 := by decide +kernel
theorem tyX8_ok : ∀ k, k < 9 → parseFieldDescriptor (TX8 k).2.2.1 = some (tyX8 k) := by decide +kernel
abbrev cX8_init : ByteArray := prog_10_method_1_code
def yX8_init : MethodName := ⟨RX8, "<init>", "()V"⟩
abbrev cX8_become : ByteArray := prog_10_method_2_code
def yX8_become : MethodName := ⟨RX8, "become", "(LDoubtCatcher$Town;)V"⟩
abbrev cX8_ofHouse : ByteArray := prog_10_method_3_code
def yX8_ofHouse : MethodName := ⟨RX8, "ofHouse", "(II)I"⟩
abbrev cX8_allDoubts : ByteArray := prog_10_method_4_code
def yX8_allDoubts : MethodName := ⟨RX8, "allDoubts", "()I"⟩
abbrev cX8_clearHouses : ByteArray := prog_10_method_5_code
def yX8_clearHouses : MethodName := ⟨RX8, "clearHouses", "()I"⟩
abbrev cX8_hasHole : ByteArray := prog_10_method_6_code
def yX8_hasHole : MethodName := ⟨RX8, "hasHole", "(II)Z"⟩
abbrev cX8_turnHole : ByteArray := prog_10_method_7_code
def yX8_turnHole : MethodName := ⟨RX8, "turnHole", "(II)V"⟩
abbrev cX8_countHoles : ByteArray := prog_10_method_8_code
def yX8_countHoles : MethodName := ⟨RX8, "countHoles", "()I"⟩
abbrev cX8_holesAllMeet : ByteArray := prog_10_method_9_code
def yX8_holesAllMeet : MethodName := ⟨RX8, "holesAllMeet", "(I)Z"⟩
abbrev cX8_whyNot : ByteArray := prog_10_method_10_code
def yX8_whyNot : MethodName := ⟨RX8, "whyNot", "(LDoubtCatcher$Act;)I"⟩
abbrev cX8_take : ByteArray := prog_10_method_11_code
def yX8_take : MethodName := ⟨RX8, "take", "(LDoubtCatcher$Act;)V"⟩
abbrev cX8_passWeek : ByteArray := prog_10_method_12_code
def yX8_passWeek : MethodName := ⟨RX8, "passWeek", "()V"⟩
abbrev cX8_wander : ByteArray := prog_10_method_13_code
def yX8_wander : MethodName := ⟨RX8, "wander", "()V"⟩
abbrev cX8_quietestOf : ByteArray := prog_10_method_14_code
def yX8_quietestOf : MethodName := ⟨RX8, "quietestOf", "(I)I"⟩
def RX9 : String := "DoubtCatcher"
def TX9 : u_T := fun k => match k with
  | 0 => ("DoubtCatcher", "now", "LDoubtCatcher$Town;", true)
  | 1 => ("DoubtCatcher", "tried", "LDoubtCatcher$Town;", true)
  | 2 => ("DoubtCatcher", "pad", "LDoubtCatcher$Pad;", true)
  | 3 => ("DoubtCatcher", "act", "LDoubtCatcher$Act;", true)
  | 4 => ("DoubtCatcher", "telling", "LDoubtCatcher$Telling;", true)
  | 5 => ("DoubtCatcher", "sights", "LDoubtCatcher$Sights;", true)
  | 6 => ("DoubtCatcher", "asking", "LDoubtCatcher$Asking;", true)
  | 7 => ("DoubtCatcher", "hearing", "LDoubtCatcher$Hearing;", true)
  | 8 => ("DoubtCatcher", "hunt", "LDoubtCatcher$Hunt;", true)
  | _ => ("DoubtCatcher", "images", "[LDoubtCatcher$Image;", true)
def tyX9 : Nat → FieldType := fun k => match k with
  | 0 => .object "DoubtCatcher$Town"
  | 1 => .object "DoubtCatcher$Town"
  | 2 => .object "DoubtCatcher$Pad"
  | 3 => .object "DoubtCatcher$Act"
  | 4 => .object "DoubtCatcher$Telling"
  | 5 => .object "DoubtCatcher$Sights"
  | 6 => .object "DoubtCatcher$Asking"
  | 7 => .object "DoubtCatcher$Hearing"
  | 8 => .object "DoubtCatcher$Hunt"
  | _ => .array (.object "DoubtCatcher$Image")
abbrev wsX90 : List Cond := u_ws RX9 TX9 10
theorem nmX9 : ∀ a, a < 10 → ∀ b, b < 10 → a ≠ b → (TX9 a).2.1 ≠ (TX9 b).2.1 := by decide +kernel
theorem tyX9_ok : ∀ k, k < 10 → parseFieldDescriptor (TX9 k).2.2.1 = some (tyX9 k) := by decide +kernel
abbrev cX9_init : ByteArray := prog_1_method_1_code
def yX9_init : MethodName := ⟨RX9, "<init>", "()V"⟩
abbrev cX9_house : ByteArray := prog_1_method_2_code
def yX9_house : MethodName := ⟨RX9, "house", "(IIIII)I"⟩
abbrev cX9_hole : ByteArray := prog_1_method_3_code
def yX9_hole : MethodName := ⟨RX9, "hole", "(IIZ)I"⟩
abbrev cX9_bag : ByteArray := prog_1_method_4_code
def yX9_bag : MethodName := ⟨RX9, "bag", "(I)I"⟩
abbrev cX9_say : ByteArray := prog_1_method_5_code
def yX9_say : MethodName := ⟨RX9, "say", "(I)I"⟩
abbrev cX9_wipe : ByteArray := prog_1_method_6_code
def yX9_wipe : MethodName := ⟨RX9, "wipe", "()I"⟩
abbrev cX9_fault : ByteArray := prog_1_method_7_code
def yX9_fault : MethodName := ⟨RX9, "fault", "()I"⟩
abbrev cX9_judge : ByteArray := prog_1_method_8_code
def yX9_judge : MethodName := ⟨RX9, "judge", "(I)I"⟩
abbrev cX9_behind : ByteArray := prog_1_method_9_code
def yX9_behind : MethodName := ⟨RX9, "behind", "(II)I"⟩
abbrev cX9_town : ByteArray := prog_1_method_10_code
def yX9_town : MethodName := ⟨RX9, "town", "(I)I"⟩
abbrev cX9_rid : ByteArray := prog_1_method_11_code
def yX9_rid : MethodName := ⟨RX9, "rid", "(I)I"⟩
abbrev cX9_done : ByteArray := prog_1_method_12_code
def yX9_done : MethodName := ⟨RX9, "done", "()I"⟩
abbrev cX9_tryPad : ByteArray := prog_1_method_13_code
def yX9_tryPad : MethodName := ⟨RX9, "tryPad", "()I"⟩
abbrev cX9_alone : ByteArray := prog_1_method_14_code
def yX9_alone : MethodName := ⟨RX9, "alone", "(IIII)I"⟩
abbrev cX9_terriers : ByteArray := prog_1_method_15_code
def yX9_terriers : MethodName := ⟨RX9, "terriers", "(I)I"⟩
abbrev cX9_heard : ByteArray := prog_1_method_16_code
def yX9_heard : MethodName := ⟨RX9, "heard", "(IIII)I"⟩
abbrev cX9_gnawed : ByteArray := prog_1_method_17_code
def yX9_gnawed : MethodName := ⟨RX9, "gnawed", "(II)I"⟩
abbrev cX9_forget : ByteArray := prog_1_method_18_code
def yX9_forget : MethodName := ⟨RX9, "forget", "()I"⟩
abbrev cX9_fits : ByteArray := prog_1_method_19_code
def yX9_fits : MethodName := ⟨RX9, "fits", "(I)I"⟩
abbrev cX9_ask : ByteArray := prog_1_method_20_code
def yX9_ask : MethodName := ⟨RX9, "ask", "(I)I"⟩
abbrev cX9_chase : ByteArray := prog_1_method_21_code
def yX9_chase : MethodName := ⟨RX9, "chase", "(III)I"⟩
abbrev cX9_ever : ByteArray := prog_1_method_22_code
def yX9_ever : MethodName := ⟨RX9, "ever", "(IIII)J"⟩
abbrev cX9_year : ByteArray := prog_1_method_23_code
def yX9_year : MethodName := ⟨RX9, "year", "(III)I"⟩
abbrev cX9_image : ByteArray := prog_1_method_24_code
def yX9_image : MethodName := ⟨RX9, "image", "(I)I"⟩
abbrev cX9_restore : ByteArray := prog_1_method_25_code
def yX9_restore : MethodName := ⟨RX9, "restore", "(I)I"⟩
abbrev cX9_told : ByteArray := prog_1_method_26_code
def yX9_told : MethodName := ⟨RX9, "told", "(I)I"⟩
abbrev cX9_within : ByteArray := prog_1_method_27_code
def yX9_within : MethodName := ⟨RX9, "within", "(III)Z"⟩
abbrev cX9_isHouse : ByteArray := prog_1_method_28_code
def yX9_isHouse : MethodName := ⟨RX9, "isHouse", "(I)Z"⟩
abbrev cX9_isLetter : ByteArray := prog_1_method_29_code
def yX9_isLetter : MethodName := ⟨RX9, "isLetter", "(I)Z"⟩
abbrev cX9_grown : ByteArray := prog_1_method_30_code
def yX9_grown : MethodName := ⟨RX9, "grown", "(II)I"⟩
abbrev cX9_uncaged : ByteArray := prog_1_method_31_code
def yX9_uncaged : MethodName := ⟨RX9, "uncaged", "(II)I"⟩
abbrev cX9_power : ByteArray := prog_1_method_32_code
def yX9_power : MethodName := ⟨RX9, "power", "(JI)J"⟩
abbrev cX9_commonDivisor : ByteArray := prog_1_method_33_code
def yX9_commonDivisor : MethodName := ⟨RX9, "commonDivisor", "(JJ)J"⟩
def RX10 : String := "DoubtCatcherModel"
def TX10 : u_T := fun k => match k with
  | 0 => ("DoubtCatcherModel", "doubts", "[I", true)
  | 1 => ("DoubtCatcherModel", "crumbs", "[I", true)
  | 2 => ("DoubtCatcherModel", "cages", "[I", true)
  | 3 => ("DoubtCatcherModel", "smell", "[I", true)
  | 4 => ("DoubtCatcherModel", "holes", "[I", true)
  | 5 => ("DoubtCatcherModel", "inBag", "I", false)
  | 6 => ("DoubtCatcherModel", "inSack", "I", false)
  | 7 => ("DoubtCatcherModel", "weeks", "I", false)
  | 8 => ("DoubtCatcherModel", "sightWeek", "[I", true)
  | 9 => ("DoubtCatcherModel", "sightMany", "[I", true)
  | 10 => ("DoubtCatcherModel", "sights", "I", false)
  | 11 => ("DoubtCatcherModel", "pad", "[I", true)
  | 12 => ("DoubtCatcherModel", "padMany", "I", false)
  | 13 => ("DoubtCatcherModel", "act", "[I", true)
  | 14 => ("DoubtCatcherModel", "which", "[I", true)
  | 15 => ("DoubtCatcherModel", "other", "[I", true)
  | 16 => ("DoubtCatcherModel", "acts", "I", false)
  | 17 => ("DoubtCatcherModel", "caught", "I", false)
  | 18 => ("DoubtCatcherModel", "more", "[I", true)
  | 19 => ("DoubtCatcherModel", "had", "[I", true)
  | 20 => ("DoubtCatcherModel", "badAct", "I", false)
  | 21 => ("DoubtCatcherModel", "badWhy", "I", false)
  | 22 => ("DoubtCatcherModel", "clearAct", "I", false)
  | 23 => ("DoubtCatcherModel", "clearHouse", "I", false)
  | 24 => ("DoubtCatcherModel", "one", "[I", true)
  | 25 => ("DoubtCatcherModel", "two", "[I", true)
  | 26 => ("DoubtCatcherModel", "lengths", "[I", true)
  | 27 => ("DoubtCatcherModel", "byMany", "[I", true)
  | 28 => ("DoubtCatcherModel", "goings", "[I", true)
  | 29 => ("DoubtCatcherModel", "then", "[I", true)
  | 30 => ("DoubtCatcherModel", "kept", "[I", true)
  | 31 => ("DoubtCatcherModel", "isKept", "[Z", true)
  | 32 => ("DoubtCatcherModel", "keptAt", "I", false)
  | _ => ("DoubtCatcherModel", "isWriting", "Z", false)
def tyX10 : Nat → FieldType := fun k => match k with
  | 0 => .array .int
  | 1 => .array .int
  | 2 => .array .int
  | 3 => .array .int
  | 4 => .array .int
  | 5 => .int
  | 6 => .int
  | 7 => .int
  | 8 => .array .int
  | 9 => .array .int
  | 10 => .int
  | 11 => .array .int
  | 12 => .int
  | 13 => .array .int
  | 14 => .array .int
  | 15 => .array .int
  | 16 => .int
  | 17 => .int
  | 18 => .array .int
  | 19 => .array .int
  | 20 => .int
  | 21 => .int
  | 22 => .int
  | 23 => .int
  | 24 => .array .int
  | 25 => .array .int
  | 26 => .array .int
  | 27 => .array .int
  | 28 => .array .int
  | 29 => .array .int
  | 30 => .array .int
  | 31 => .array .boolean
  | 32 => .int
  | _ => .boolean
abbrev wsX100 : List Cond := u_ws RX10 TX10 34
theorem nmX10 : ∀ a, a < 34 → ∀ b, b < 34 → a ≠ b → (TX10 a).2.1 ≠ (TX10 b).2.1 := by decide +kernel
theorem tyX10_ok : ∀ k, k < 34 → parseFieldDescriptor (TX10 k).2.2.1 = some (tyX10 k) := by decide +kernel
abbrev cX10_init : ByteArray := prog_12_method_1_code
def yX10_init : MethodName := ⟨RX10, "<init>", "()V"⟩
abbrev cX10_in : ByteArray := prog_12_method_3_code
def yX10_in : MethodName := ⟨RX10, "in", "(JJJ)Z"⟩
abbrev cX10_isHouse : ByteArray := prog_12_method_4_code
def yX10_isHouse : MethodName := ⟨RX10, "isHouse", "(I)Z"⟩
abbrev cX10_ones : ByteArray := prog_12_method_5_code
def yX10_ones : MethodName := ⟨RX10, "ones", "(I)I"⟩
abbrev cX10_has : ByteArray := prog_12_method_6_code
def yX10_has : MethodName := ⟨RX10, "has", "(II)Z"⟩
abbrev cX10_with : ByteArray := prog_12_method_7_code
def yX10_with : MethodName := ⟨RX10, "with", "(IIZ)I"⟩
abbrev cX10_less : ByteArray := prog_12_method_8_code
def yX10_less : MethodName := ⟨RX10, "less", "(II)I"⟩
abbrev cX10_house : ByteArray := prog_12_method_9_code
def yX10_house : MethodName := ⟨RX10, "house", "(IIIII)I"⟩
abbrev cX10_bore : ByteArray := prog_12_method_10_code
def yX10_bore : MethodName := ⟨RX10, "bore", "(IIZ)V"⟩
abbrev cX10_hole : ByteArray := prog_12_method_11_code
def yX10_hole : MethodName := ⟨RX10, "hole", "(IIZ)I"⟩
abbrev cX10_bag : ByteArray := prog_12_method_12_code
def yX10_bag : MethodName := ⟨RX10, "bag", "(I)I"⟩
abbrev cX10_say : ByteArray := prog_12_method_13_code
def yX10_say : MethodName := ⟨RX10, "say", "(I)I"⟩
abbrev cX10_wipe : ByteArray := prog_12_method_14_code
def yX10_wipe : MethodName := ⟨RX10, "wipe", "()I"⟩
abbrev cX10_close : ByteArray := prog_12_method_15_code
def yX10_close : MethodName := ⟨RX10, "close", "(I)I"⟩
abbrev cX10_isName : ByteArray := prog_12_method_16_code
def yX10_isName : MethodName := ⟨RX10, "isName", "(I)Z"⟩
abbrev cX10_begin : ByteArray := prog_12_method_17_code
def yX10_begin : MethodName := ⟨RX10, "begin", "(I)I"⟩
abbrev cX10_deed : ByteArray := prog_12_method_18_code
def yX10_deed : MethodName := ⟨RX10, "deed", "(I)I"⟩
abbrev cX10_end : ByteArray := prog_12_method_19_code
def yX10_end : MethodName := ⟨RX10, "end", "(II)I"⟩
abbrev cX10_fault : ByteArray := prog_12_method_20_code
def yX10_fault : MethodName := ⟨RX10, "fault", "()I"⟩
abbrev cX10_whyNot : ByteArray := prog_12_method_21_code
def yX10_whyNot : MethodName := ⟨RX10, "whyNot", "(III)I"⟩
abbrev cX10_grown : ByteArray := prog_12_method_22_code
def yX10_grown : MethodName := ⟨RX10, "grown", "(II)I"⟩
abbrev cX10_breed : ByteArray := prog_12_method_23_code
def yX10_breed : MethodName := ⟨RX10, "breed", "()V"⟩
abbrev cX10_goal : ByteArray := prog_12_method_24_code
def yX10_goal : MethodName := ⟨RX10, "goal", "(I)I"⟩
abbrev cX10_go : ByteArray := prog_12_method_25_code
def yX10_go : MethodName := ⟨RX10, "go", "()V"⟩
abbrev cX10_happen : ByteArray := prog_12_method_26_code
def yX10_happen : MethodName := ⟨RX10, "happen", "(III)V"⟩
abbrev cX10_keepNow : ByteArray := prog_12_method_27_code
def yX10_keepNow : MethodName := ⟨RX10, "keepNow", "()V"⟩
abbrev cX10_back : ByteArray := prog_12_method_28_code
def yX10_back : MethodName := ⟨RX10, "back", "(I)I"⟩
abbrev cX10_clear : ByteArray := prog_12_method_29_code
def yX10_clear : MethodName := ⟨RX10, "clear", "()I"⟩
abbrev cX10_leastOf : ByteArray := prog_12_method_30_code
def yX10_leastOf : MethodName := ⟨RX10, "leastOf", "(I)I"⟩
abbrev cX10_goOne : ByteArray := prog_12_method_31_code
def yX10_goOne : MethodName := ⟨RX10, "goOne", "(I)V"⟩
abbrev cX10_goWeeks : ByteArray := prog_12_method_32_code
def yX10_goWeeks : MethodName := ⟨RX10, "goWeeks", "()V"⟩
abbrev cX10_refusal : ByteArray := prog_12_method_33_code
def yX10_refusal : MethodName := ⟨RX10, "refusal", "()I"⟩
abbrev cX10_judge : ByteArray := prog_12_method_34_code
def yX10_judge : MethodName := ⟨RX10, "judge", "(I)I"⟩
abbrev cX10_ofHouse : ByteArray := prog_12_method_35_code
def yX10_ofHouse : MethodName := ⟨RX10, "ofHouse", "(II)I"⟩
abbrev cX10_behind : ByteArray := prog_12_method_36_code
def yX10_behind : MethodName := ⟨RX10, "behind", "(II)I"⟩
abbrev cX10_allDoubts : ByteArray := prog_12_method_37_code
def yX10_allDoubts : MethodName := ⟨RX10, "allDoubts", "()I"⟩
abbrev cX10_ofTown : ByteArray := prog_12_method_38_code
def yX10_ofTown : MethodName := ⟨RX10, "ofTown", "(I)I"⟩
abbrev cX10_town : ByteArray := prog_12_method_39_code
def yX10_town : MethodName := ⟨RX10, "town", "(I)I"⟩
abbrev cX10_rid : ByteArray := prog_12_method_40_code
def yX10_rid : MethodName := ⟨RX10, "rid", "(I)I"⟩
abbrev cX10_done : ByteArray := prog_12_method_41_code
def yX10_done : MethodName := ⟨RX10, "done", "()I"⟩
abbrev cX10_alone : ByteArray := prog_12_method_42_code
def yX10_alone : MethodName := ⟨RX10, "alone", "(IIII)I"⟩
abbrev cX10_isWatched : ByteArray := prog_12_method_43_code
def yX10_isWatched : MethodName := ⟨RX10, "isWatched", "(I)Z"⟩
abbrev cX10_terriers : ByteArray := prog_12_method_44_code
def yX10_terriers : MethodName := ⟨RX10, "terriers", "(I)I"⟩
abbrev cX10_digit : ByteArray := prog_12_method_45_code
def yX10_digit : MethodName := ⟨RX10, "digit", "(III)I"⟩
abbrev cX10_isRow : ByteArray := prog_12_method_46_code
def yX10_isRow : MethodName := ⟨RX10, "isRow", "(II)Z"⟩
abbrev cX10_lengthFrom : ByteArray := prog_12_method_47_code
def yX10_lengthFrom : MethodName := ⟨RX10, "lengthFrom", "(III)I"⟩
abbrev cX10_inOne : ByteArray := prog_12_method_48_code
def yX10_inOne : MethodName := ⟨RX10, "inOne", "(III)I"⟩
abbrev cX10_inTwo : ByteArray := prog_12_method_49_code
def yX10_inTwo : MethodName := ⟨RX10, "inTwo", "(III)I"⟩
abbrev cX10_leastRow : ByteArray := prog_12_method_50_code
def yX10_leastRow : MethodName := ⟨RX10, "leastRow", "(I)I"⟩
abbrev cX10_heard : ByteArray := prog_12_method_51_code
def yX10_heard : MethodName := ⟨RX10, "heard", "(IIII)I"⟩
abbrev cX10_gnawed : ByteArray := prog_12_method_52_code
def yX10_gnawed : MethodName := ⟨RX10, "gnawed", "(II)I"⟩
abbrev cX10_forget : ByteArray := prog_12_method_53_code
def yX10_forget : MethodName := ⟨RX10, "forget", "()I"⟩
abbrev cX10_bred : ByteArray := prog_12_method_54_code
def yX10_bred : MethodName := ⟨RX10, "bred", "(II)I"⟩
abbrev cX10_isFit : ByteArray := prog_12_method_55_code
def yX10_isFit : MethodName := ⟨RX10, "isFit", "(I)Z"⟩
abbrev cX10_fits : ByteArray := prog_12_method_56_code
def yX10_fits : MethodName := ⟨RX10, "fits", "(I)I"⟩
abbrev cX10_mostLeft : ByteArray := prog_12_method_57_code
def yX10_mostLeft : MethodName := ⟨RX10, "mostLeft", "(I)I"⟩
abbrev cX10_ask : ByteArray := prog_12_method_58_code
def yX10_ask : MethodName := ⟨RX10, "ask", "(I)I"⟩
abbrev cX10_isSure : ByteArray := prog_12_method_59_code
def yX10_isSure : MethodName := ⟨RX10, "isSure", "(III)Z"⟩
abbrev cX10_sureGoing : ByteArray := prog_12_method_60_code
def yX10_sureGoing : MethodName := ⟨RX10, "sureGoing", "(III)I"⟩
abbrev cX10_oneGoingMore : ByteArray := prog_12_method_61_code
def yX10_oneGoingMore : MethodName := ⟨RX10, "oneGoingMore", "(I)Z"⟩
abbrev cX10_chase : ByteArray := prog_12_method_62_code
def yX10_chase : MethodName := ⟨RX10, "chase", "(III)I"⟩
abbrev cX10_lowest : ByteArray := prog_12_method_63_code
def yX10_lowest : MethodName := ⟨RX10, "lowest", "(JJI)J"⟩
abbrev cX10_power : ByteArray := prog_12_method_64_code
def yX10_power : MethodName := ⟨RX10, "power", "(JI)J"⟩
abbrev cX10_size : ByteArray := prog_12_method_65_code
def yX10_size : MethodName := ⟨RX10, "size", "(J)J"⟩
abbrev cX10_ever : ByteArray := prog_12_method_66_code
def yX10_ever : MethodName := ⟨RX10, "ever", "(IIII)J"⟩
abbrev cX10_actBy : ByteArray := prog_12_method_67_code
def yX10_actBy : MethodName := ⟨RX10, "actBy", "(I)I"⟩
abbrev cX10_year : ByteArray := prog_12_method_68_code
def yX10_year : MethodName := ⟨RX10, "year", "(III)I"⟩
abbrev cX10_pass : ByteArray := prog_12_method_69_code
def yX10_pass : MethodName := ⟨RX10, "pass", "(I)I"⟩
abbrev cX10_passRow : ByteArray := prog_12_method_70_code
def yX10_passRow : MethodName := ⟨RX10, "passRow", "([II)V"⟩
abbrev cX10_passAll : ByteArray := prog_12_method_71_code
def yX10_passAll : MethodName := ⟨RX10, "passAll", "()V"⟩
abbrev cX10_image : ByteArray := prog_12_method_72_code
def yX10_image : MethodName := ⟨RX10, "image", "(I)I"⟩
abbrev cX10_restore : ByteArray := prog_12_method_73_code
def yX10_restore : MethodName := ⟨RX10, "restore", "(I)I"⟩
abbrev cX10_told : ByteArray := prog_12_method_74_code
def yX10_told : MethodName := ⟨RX10, "told", "(I)I"⟩
def RJ6 : String := "java/lang/Integer"
def TJ6 : u_T := fun k => match k with
  | _ => ("", "", "", false)
def tyJ6 : Nat → FieldType := fun k => match k with
  | _ => .int
abbrev wsJ60 : List Cond := u_ws RJ6 TJ6 0
theorem nmJ6 : ∀ a, a < 0 → ∀ b, b < 0 → a ≠ b → (TJ6 a).2.1 ≠ (TJ6 b).2.1 := by decide +kernel
theorem tyJ6_ok : ∀ k, k < 0 → parseFieldDescriptor (TJ6 k).2.2.1 = some (tyJ6 k) := by decide +kernel
abbrev cJ6_bitCount_0f7a4 : ByteArray := prog_13_method_49_code
def yJ6_bitCount_0f7a4 : MethodName := ⟨RJ6, "bitCount", "(I)I"⟩
def RJ9 : String := "java/lang/Math"
def TJ9 : u_T := fun k => match k with
  | _ => ("", "", "", false)
def tyJ9 : Nat → FieldType := fun k => match k with
  | _ => .int
abbrev wsJ90 : List Cond := u_ws RJ9 TJ9 0
theorem nmJ9 : ∀ a, a < 0 → ∀ b, b < 0 → a ≠ b → (TJ9 a).2.1 ≠ (TJ9 b).2.1 := by decide +kernel
theorem tyJ9_ok : ∀ k, k < 0 → parseFieldDescriptor (TJ9 k).2.2.1 = some (tyJ9 k) := by decide +kernel
abbrev cJ9_floorMod_7cf53 : ByteArray := prog_14_method_50_code
def yJ9_floorMod_7cf53 : MethodName := ⟨RJ9, "floorMod", "(II)I"⟩
abbrev cJ9_abs_067f4 : ByteArray := prog_14_method_61_code
def yJ9_abs_067f4 : MethodName := ⟨RJ9, "abs", "(J)J"⟩
abbrev cJ9_max_7cf53 : ByteArray := prog_14_method_65_code
def yJ9_max_7cf53 : MethodName := ⟨RJ9, "max", "(II)I"⟩
abbrev cJ9_min_7cf53 : ByteArray := prog_14_method_69_code
def yJ9_min_7cf53 : MethodName := ⟨RJ9, "min", "(II)I"⟩
def RJ10 : String := "java/lang/System"
def TJ10 : u_T := fun k => match k with
  | _ => ("", "", "", false)
def tyJ10 : Nat → FieldType := fun k => match k with
  | _ => .int
abbrev wsJ100 : List Cond := u_ws RJ10 TJ10 0
theorem nmJ10 : ∀ a, a < 0 → ∀ b, b < 0 → a ≠ b → (TJ10 a).2.1 ≠ (TJ10 b).2.1 := by decide +kernel
theorem tyJ10_ok : ∀ k, k < 0 → parseFieldDescriptor (TJ10 k).2.2.1 = some (tyJ10 k) := by decide +kernel
def RJ7 : String := "java/util/Arrays"
def TJ7 : u_T := fun k => match k with
  | _ => ("", "", "", false)
def tyJ7 : Nat → FieldType := fun k => match k with
  | _ => .int
abbrev wsJ70 : List Cond := u_ws RJ7 TJ7 0
theorem nmJ7 : ∀ a, a < 0 → ∀ b, b < 0 → a ≠ b → (TJ7 a).2.1 ≠ (TJ7 b).2.1 := by decide +kernel
theorem tyJ7_ok : ∀ k, k < 0 → parseFieldDescriptor (TJ7 k).2.2.1 = some (tyJ7 k) := by decide +kernel
abbrev cJ7_fill_53178 : ByteArray := prog_16_method_103_code
def yJ7_fill_53178 : MethodName := ⟨RJ7, "fill", "([II)V"⟩
def RL : String := "DoubtCatcherLaw"
abbrev cL_law : ByteArray := code
def yL_law : MethodName := ⟨RL, "law", "([I)Z"⟩
abbrev vwCl : List vw_C := [(RX0, TX0, 3), (RX1, TX1, 6), (RX2, TX2, 4), (RX3, TX3, 5), (RX4, TX4, 3), (RX5, TX5, 2), (RX6, TX6, 3), (RX7, TX7, 5), (RX8, TX8, 9), (RX9, TX9, 10), (RX10, TX10, 34)]
end
section
-- the pure picture of the memory: the ints of cell k by their slots
abbrev Mem : Type := Nat → Nat → Int32
def upA (M : Mem) (k : Nat) (f : Nat → Int32) : Mem := fun k' => if k' = k then f else M k'
def up2 (M : Mem) (k j : Nat) (x : Int32) : Mem := upA M k (upd (M k) j x)
def cv (ad : Nat → Nat) : Value → Value
  | .ref k => .ref (ad k)
  | v => v
theorem cv_cat (ad : Nat → Nat) (v : Value) : (cv ad v).category = v.category := by cases v <;> rfl
def lw_good : List Cond := lw_tbl.filter goodWord
def nestW (w : Cond) : Bool := match w with
  | .methodLinkNest .. => true
  | .fieldLinkNest .. => true
  | _ => false
def lw_nest : List Cond := lw_tbl.filter nestW
theorem mem_good {w : Cond} (i : Nat) (h : (decide (lw_tbl[i]? = some w) && goodWord w) = true) : w ∈ lw_good := by
  rw [Bool.and_eq_true, decide_eq_true_eq] at h
  exact List.mem_filter.mpr ⟨List.mem_of_getElem? h.1, h.2⟩
theorem mem_nest {w : Cond} (i : Nat) (h : (decide (lw_tbl[i]? = some w) && nestW w) = true) : w ∈ lw_nest := by
  rw [Bool.and_eq_true, decide_eq_true_eq] at h
  exact List.mem_filter.mpr ⟨List.mem_of_getElem? h.1, h.2⟩
theorem mem_goods {ws : List Cond} (ps : List Nat) (h : (decide (ps.filterMap (fun i => lw_tbl[i]?) = ws) && ws.all goodWord) = true) : ∀ w ∈ ws, w ∈ lw_good := by
  rw [Bool.and_eq_true, decide_eq_true_eq] at h
  intro w hw
  have h2 := List.all_eq_true.mp h.2 w hw
  rw [← h.1] at hw
  obtain ⟨i, -, hi⟩ := List.mem_filterMap.mp hw
  exact List.mem_filter.mpr ⟨List.mem_of_getElem? hi, h2⟩
theorem good_in (a : Cond) (y : Cond) (hy : y ∈ lw_good) : GoodIn (a :: lw_good) (y :: lw_good) := by
  intro w hw
  have h : w ∈ lw_good := (List.mem_cons.mp hw).elim (fun e => e ▸ hy) id
  exact ⟨List.mem_cons_of_mem _ h, good_of_word (List.mem_filter.mp h).2⟩
theorem good_in0 (y : Cond) (hy : y ∈ lw_good) : GoodIn lw_good (y :: lw_good) := by
  intro w hw
  have h : w ∈ lw_good := (List.mem_cons.mp hw).elim (fun e => e ▸ hy) id
  exact ⟨h, good_of_word (List.mem_filter.mp h).2⟩
-- the shape of the world: tag 0 a row of ints, 1 a row of booleans, 2 the row of images, c + 3 an object of kind c
def shl : List (Nat × Nat × List (Option Nat)) :=
  [(12, 10, [some 1, some 8, some 15, some 17, some 18, some 19, some 21, some 25, some 28, some 32]),
   (11, 9, [some 2, some 3, some 4, some 5, some 6, some 7, none, none, none]), (0, 8, []), (0, 8, []), (0, 8, []), (0, 8, []), (0, 8, []), (0, 8, []),
   (11, 9, [some 9, some 10, some 11, some 12, some 13, some 14, none, none, none]), (0, 8, []), (0, 8, []), (0, 8, []), (0, 8, []), (0, 8, []), (0, 8, []),
   (8, 2, [some 16, none]), (0, 60, []),
   (3, 3, [none, none, none]),
   (10, 5, [none, none, none, none, none]),
   (9, 3, [some 20, none, none]), (0, 41, []),
   (4, 6, [some 22, some 23, some 24, none, none, none]), (0, 90, []), (0, 90, []), (0, 100, []),
   (5, 4, [some 26, some 27, none, none]), (0, 100, []), (0, 100, []),
   (6, 5, [some 29, some 30, some 31, none, none]), (0, 8, []), (0, 8, []), (0, 8, []),
   (2, 2, [some 33, some 43]),
   (7, 3, [some 34, some 41, none]),
   (11, 9, [some 35, some 36, some 37, some 38, some 39, some 40, none, none, none]), (0, 8, []), (0, 8, []), (0, 8, []), (0, 8, []), (0, 8, []), (0, 8, []),
   (9, 3, [some 42, none, none]), (0, 41, []),
   (7, 3, [some 44, some 51, none]),
   (11, 9, [some 45, some 46, some 47, some 48, some 49, some 50, none, none, none]), (0, 8, []), (0, 8, []), (0, 8, []), (0, 8, []), (0, 8, []), (0, 8, []),
   (9, 3, [some 52, none, none]), (0, 41, []),
   (13, 34, [some 54, some 55, some 56, some 57, some 58, none, none, none, some 59, some 60, none, some 61, none, some 62, some 63, some 64, none, none, some 65, some 66, none, none, none, none, some 67, some 68, some 69, some 70, some 71, some 72, some 73, some 74, none, none]),
   (0, 8, []), (0, 8, []), (0, 8, []), (0, 8, []), (0, 8, []), (0, 8, []), (0, 8, []), (0, 60, []), (0, 60, []), (0, 60, []), (0, 60, []), (0, 8, []), (0, 43, []), (0, 9, []), (0, 9, []), (0, 100, []), (0, 100, []), (0, 64, []), (0, 64, []), (0, 140, []), (1, 2, [])]
theorem shl_len : shl.length = 75 := by decide
def fv (ad : Nat → Nat) (f : Nat → Int32) (j : Nat) (r : Option Nat) : Value := match r with
  | some q => .ref (ad q)
  | none => .int (f j)
def ce (tI tZ tG : ClassId) (ad : Nat → Nat) (f : Nat → Int32) (q : Nat × Nat × List (Option Nat)) : va_E := match q with
  | (0, n, _) => .inl (tI, n, .inl f)
  | (1, n, _) => .inl (tZ, n, .inl f)
  | (2, n, rs) => .inl (tG, n, .inr (.inr (.inr (.inr (fun i => (rs.getD i none).map ad)))))
  | (c + 3, _, rs) => .inr (c, rs.mapIdx (fv ad f))
def cw (tI tZ tG : ClassId) (ad : Nat → Nat) (M : Mem) : va_W := shl.mapIdx (fun k q => (ad k, ce tI tZ tG ad (M k) q))
theorem cw_get {tI tZ tG : ClassId} {ad : Nat → Nat} {M : Mem} {k : Nat} {q : Nat × Nat × List (Option Nat)} (h : shl[k]? = some q) : (cw tI tZ tG ad M)[k]? = some (ad k, ce tI tZ tG ad (M k) q) := by
  unfold cw
  rw [List.getElem?_mapIdx, h]
  rfl
theorem cw_lt {tI tZ tG : ClassId} {ad : Nat → Nat} {M : Mem} {k : Nat} {q : Nat × va_E} (h : (cw tI tZ tG ad M)[k]? = some q) : k < 75 ∧ q.1 = ad k := by
  unfold cw at h
  rw [List.getElem?_mapIdx] at h
  cases hs : shl[k]? with
  | none => rw [hs] at h; cases h
  | some w =>
    rw [hs] at h
    cases h
    refine ⟨?_, rfl⟩
    have := (List.getElem?_eq_some_iff.mp hs).1
    rw [shl_len] at this
    exact this
theorem cw_D {tI tZ tG : ClassId} {ad : Nat → Nat} {A : Nat → Prop} (hi : ∀ i j, i < 75 → j < 75 → ad i = ad j → i = j) (hA : ∀ k, k < 75 → A (ad k)) (M : Mem) : va_D A (cw tI tZ tG ad M) := by
  refine ⟨fun i j p q h1 h2 e => ?_, fun k q h => ?_⟩
  · obtain ⟨a1, b1⟩ := cw_lt h1
    obtain ⟨a2, b2⟩ := cw_lt h2
    exact hi i j a1 a2 (by rw [← b1, ← b2]; exact e)
  · obtain ⟨a1, b1⟩ := cw_lt h
    rw [b1]
    exact hA k a1
theorem cw_set {tI tZ tG : ClassId} {ad : Nat → Nat} {M : Mem} {k : Nat} {q : Nat × Nat × List (Option Nat)} (h : shl[k]? = some q) (f : Nat → Int32) : (cw tI tZ tG ad M).set k (ad k, ce tI tZ tG ad f q) = cw tI tZ tG ad (upA M k f) := by
  apply List.ext_getElem?
  intro j
  have hl := (List.getElem?_eq_some_iff.mp h).1
  unfold cw
  rw [List.getElem?_set, List.getElem?_mapIdx, List.getElem?_mapIdx]
  by_cases e : k = j
  · subst e
    rw [if_pos rfl, if_pos (by rw [List.length_mapIdx]; exact hl), h]
    simp [upA]
  · rw [if_neg e]
    cases shl[j]? with
    | none => rfl
    | some w =>
      have e' : ¬ j = k := fun h => e h.symm
      simp [upA, e']
theorem ce_setI {tI tZ tG : ClassId} {ad : Nat → Nat} {f : Nat → Int32} {c n j : Nat} {rs : List (Option Nat)} (hj : rs[j]? = some none) (x : Int32) : (Sum.inr (c, (rs.mapIdx (fv ad f)).set j (.int x)) : va_E) = ce tI tZ tG ad (upd f j x) (c + 3, n, rs) := by
  show _ = Sum.inr (c, rs.mapIdx (fv ad (upd f j x)))
  congr 2
  apply List.ext_getElem?
  intro i
  rw [List.getElem?_set, List.getElem?_mapIdx, List.getElem?_mapIdx]
  by_cases e : j = i
  · subst e
    have hl := (List.getElem?_eq_some_iff.mp hj).1
    rw [if_pos rfl, if_pos (by rw [List.length_mapIdx]; exact hl), hj]
    simp [fv, upd]
  · rw [if_neg e]
    cases rs[i]? with
    | none => rfl
    | some w =>
      cases w with
      | none =>
        have e' : ¬ i = j := fun h => e h.symm
        simp [fv, upd, e']
      | some z => rfl
def tensF (j : Nat) : Int32 := ([1, 10, 100, 1000, 10000, 100000, 1000000, 10000000, 100000000, 1000000000] : List Int32).getD j 0
def signF (j : Nat) : Int32 := ([43, 45, 94, 95, 33, 111, 46, 46] : List Int32).getD j 0
def Aw (ad : Nat → Nat) : Nat → Prop := fun q => ∃ k, k < 75 ∧ q = ad k
def Wd (D : va_G) (tI tZ tG : ClassId) (ad : Nat → Nat) (A : Nat → Prop) (U : State) : Prop :=
  va_K D vwCl [(tI, .int), (tZ, .boolean), (tG, .object RX4)] U ∧
  (∀ i j, i < 75 → j < 75 → ad i = ad j → i = j) ∧ (∀ k, k < 75 → A (ad k)) ∧
  (va_Z RX9 "TENS" "[I" (.ref (ad 75)) A U U.heap ∧ va_T .int (ad 75) 10 (fun j => .int (tensF j)) A U U.heap) ∧
  (va_Z RX9 "YEAR_SIGNS" "[I" (.ref (ad 76)) A U U.heap ∧ va_T .int (ad 76) 8 (fun j => .int (signF j)) A U U.heap) ∧
  (∀ w ∈ lw_nest, va_Nw w U)
theorem nest_on {w : Cond} (h : w ∈ lw_nest) : w.onTables = true := by
  have h2 := (List.mem_filter.mp h).2
  unfold nestW at h2
  split at h2
  · rfl
  · rfl
  · cases h2
theorem nest_warm {w : Cond} (h : w ∈ lw_nest) {s U : State} (hW : s.WarmedH U.vm) (hZ : va_Nw w s) : va_Nw w U := by
  have h2 := (List.mem_filter.mp h).2
  unfold nestW at h2
  split at h2
  · exact va_Nw.warmM hW hZ
  · exact va_Nw.warmF hW hZ
  · cases h2
theorem Wd.calling {D : va_G} {tI tZ tG : ClassId} {ad : Nat → Nat} {A : Nat → Prop} {U : State} (g : JFrame) (mk : MethodId) (a : Array Value) (h : Wd D tI tZ tG ad A U) : Wd D tI tZ tG ad A (U.calling g mk a) := by
  obtain ⟨h1, h2, h3, ⟨h4, h5⟩, ⟨h6, h7⟩, h8⟩ := h
  have al : U.vm.Alike (U.calling g mk a).vm := Vm.Alike.refl U.vm
  exact ⟨va_K.moved al h1, h2, h3, ⟨va_Z.moved al h4, va_T.moved al h5⟩, ⟨va_Z.moved al h6, va_T.moved al h7⟩, fun w hw => va_Nw.same (u := U) (U := U.calling g mk a) (nest_on hw) rfl (h8 w hw)⟩
theorem Wd.warm {D : va_G} {tI tZ tG : ClassId} {ad : Nat → Nat} {A : Nat → Prop} {s U : State} {locs : List Loc} (hW : s.WarmedH U.vm) (hS : va_S A s.heap U.heap locs) (h : Wd D tI tZ tG ad A s) : Wd D tI tZ tG ad (Aw ad) U := by
  obtain ⟨h1, h2, h3, ⟨h4, h5⟩, ⟨h6, h7⟩, h8⟩ := h
  have al : s.vm.Alike U.vm := hW.alike
  have hn : ∀ q, Aw ad q → A q := fun q ⟨k, hk, e⟩ => e ▸ h3 k hk
  exact ⟨va_K.moved al h1, h2, fun k hk => ⟨k, hk, rfl⟩, ⟨((va_Z.moved al h4).kept hS.2.1).narrow hn, ((va_T.moved al h5).kept hS.2.1).narrow hn⟩, ⟨((va_Z.moved al h6).kept hS.2.1).narrow hn, ((va_T.moved al h7).kept hS.2.1).narrow hn⟩, fun w hw => nest_warm hw hW (h8 w hw)⟩
end
section
def inb (i : Int32) (n : Nat) : Bool := decide (0 ≤ i.toInt) && decide (i.toInt < (n : Int))
theorem inb_in {i : Int32} {n : Nat} (h : inb i n = true) : vp_in i n := by
  unfold inb at h
  rw [Bool.and_eq_true, decide_eq_true_eq, decide_eq_true_eq] at h
  exact vp_in_iff.mpr h
abbrev ix (i : Int32) : Nat := i.toNatClampNeg
def rIns (r : Option Value) : Instr := match r with
  | none => .return_
  | some (.long _) => .lreturn
  | some _ => .ireturn
def retOK (ret : Option FieldType) (r : Option Value) : Prop := (ret = none ∧ r = none) ∨ (∃ v, ret = some .long ∧ r = some (.long v)) ∨ ∃ ty v, ret = some ty ∧ r = some (.int v) ∧ narrow ty (.int v) = .int v
def lh (ad : Nat → Nat) (ls : Array Slot) (L : List (Option Value)) : Prop := ls.size = L.length ∧ lv_wf ls ∧ ∀ (i : Nat) (v : Value), L[i]? = some (some v) → ls[i]? = some (Slot.val (cv ad v))
def asc (ad : Nat → Nat) (L : List (Option Value)) : List (Nat × Value) := L.zipIdx.filterMap (fun q => q.1.map (fun v => (q.2, cv ad v)))
theorem asc_mem {ad : Nat → Nat} {L : List (Option Value)} {q : Nat × Value} : q ∈ asc ad L ↔ ∃ v, L[q.1]? = some (some v) ∧ q.2 = cv ad v := by
  unfold asc
  rw [List.mem_filterMap]
  constructor
  · rintro ⟨⟨o, i⟩, h1, h2⟩
    have h3 := List.mem_zipIdx_iff_getElem?.mp h1
    cases o with
    | none => cases h2
    | some v =>
      cases h2
      exact ⟨v, h3, rfl⟩
  · rintro ⟨v, h1, h2⟩
    refine ⟨(some v, q.1), List.mem_zipIdx_iff_getElem?.mpr h1, ?_⟩
    show some (q.1, cv ad v) = some q
    rw [← h2]
theorem lh.has {ad : Nat → Nat} {ls : Array Slot} {L : List (Option Value)} (h : lh ad ls L) : lv_has ls L.length (asc ad L) := by
  refine ⟨h.1, h.2.1, fun q hq => ?_⟩
  obtain ⟨v, h1, h2⟩ := asc_mem.mp hq
  rw [h2]
  exact h.2.2 q.1 v h1
def noL2 (L : List (Option Value)) (i : Nat) : Bool := match i with
  | 0 => true
  | i + 1 => match L[i]? with
    | some (some v) => v.category == 1
    | _ => true
theorem noL2_spec {L : List (Option Value)} {i j : Nat} {v : Value} (h : noL2 L i = true) (hj : L[j]? = some (some v)) : ¬ (j + 1 = i ∧ v.category = 2) := by
  rintro ⟨e, hc⟩
  subst e
  unfold noL2 at h
  simp only [hj, hc] at h
  exact absurd h (by decide)
theorem lh_store {ad : Nat → Nat} {ls' : Array Slot} {L : List (Option Value)} {i : Nat} {x : Value} (hi : i < L.length) (hn : noL2 L i = true) (h : lv_has ls' L.length ((i, cv ad x) :: (asc ad L).filter (fun q => !(q.1 == i) && !(q.1 + 1 == i && q.2.category == 2)))) : lh ad ls' (L.set i (some x)) := by
  refine ⟨by rw [List.length_set]; exact h.1, h.2.1, fun j v hj => ?_⟩
  rw [List.getElem?_set] at hj
  by_cases e : i = j
  · subst e
    rw [if_pos rfl, if_pos hi] at hj
    cases hj
    exact h.2.2 (i, cv ad x) List.mem_cons_self
  · rw [if_neg e] at hj
    refine h.2.2 (j, cv ad v) (List.mem_cons_of_mem _ (List.mem_filter.mpr ⟨asc_mem.mpr ⟨v, hj, rfl⟩, ?_⟩))
    have e' : ¬ j = i := fun h => e h.symm
    have h3 := noL2_spec hn hj
    by_cases e2 : j + 1 = i
    · have : ¬ v.category = 2 := fun h => h3 ⟨e2, h⟩
      simp [e', cv_cat, this]
    · simp [e', e2]
theorem lh_store2 {ad : Nat → Nat} {ls' : Array Slot} {L : List (Option Value)} {i : Nat} {x : Value} (hi : i < L.length) (hn : noL2 L i = true) (h : lv_has ls' L.length ((i, cv ad x) :: (asc ad L).filter (fun q => !(q.1 == i) && (!(q.1 == i + 1) && !(q.1 + 1 == i && q.2.category == 2))))) : lh ad ls' ((L.set i (some x)).set (i + 1) none) := by
  refine ⟨by rw [List.length_set, List.length_set]; exact h.1, h.2.1, fun j v hj => ?_⟩
  rw [List.getElem?_set] at hj
  by_cases e1 : i + 1 = j
  · subst e1
    rw [if_pos rfl] at hj
    split at hj <;> cases hj
  · rw [if_neg e1, List.getElem?_set] at hj
    by_cases e : i = j
    · subst e
      rw [if_pos rfl, if_pos hi] at hj
      cases hj
      exact h.2.2 (i, cv ad x) List.mem_cons_self
    · rw [if_neg e] at hj
      refine h.2.2 (j, cv ad v) (List.mem_cons_of_mem _ (List.mem_filter.mpr ⟨asc_mem.mpr ⟨v, hj, rfl⟩, ?_⟩))
      have e' : ¬ j = i := fun h => e h.symm
      have e1' : ¬ j = i + 1 := fun h => e1 h.symm
      have h3 := noL2_spec hn hj
      by_cases e2 : j + 1 = i
      · have : ¬ v.category = 2 := fun h => h3 ⟨e2, h⟩
        simp [e', e1', cv_cat, this]
      · simp [e', e1', e2]
def Fx (sc : Option (Nat × (Nat → Int32))) (own : String) (cc : ByteArray) (dp nL : Nat) (p : Program) (R : Room) (s : State) (m : MethodId) (args : Array Value) (c : Code) (cells slots : Nat) (D : va_G) (tI tZ tG : ClassId) (ad : Nat → Nat) (A : Nat → Prop) : Prop :=
  p.tables.exec = Jvm.exec ∧ c.code = cc ∧ c.maxLocals = nL ∧ s.vm.findClass own = some m.cls ∧ (∀ w ∈ lw_good, w.before args s = true) ∧ (dp ≤ R.frames ∧ 34 * dp ≤ R.locals ∧ cells ≤ R.cells ∧ slots ≤ R.slots) ∧ Wd D tI tZ tG ad A s ∧ ∀ n f, sc = some (n, f) → va_X (ad 77) n f s s.heap ∧ ad 77 < s.heap.size ∧ ¬ A (ad 77)
/-- from here the method comes to its return, with what o says -/
def Ev {α : Type} (sc : Option (Nat × (Nat → Int32))) (wr : α → Option Value × Mem) (own : String) (cc : ByteArray) (ret : Option FieldType) (dp pc : Nat) (L : List (Option Value)) (st : List Value) (M : Mem) (o : Option α) : Prop :=
  ∀ (b : α), o = some b → ∀ (p : Program) (l : Launch) (e : Env) (R : Room) (s : State) (m : MethodId) (args : Array Value) (below : List Frame) (meth : Method) (c : Code) (H : Heap) (locs : List Loc) (cells slots : Nat) (Q : State → Prop) (D : va_G) (tI tZ tG : ClassId) (ad : Nat → Nat) (A : Nat → Prop) (ls : Array Slot),
    Fx sc own cc dp L.length p R s m args c cells slots D tI tZ tG ad A → va_P D vwCl (cw tI tZ tG ad M) H → va_S A s.heap H locs → lh ad ls L →
    (∀ (H' : Heap) (locs' : List Loc) (ls' : Array Slot) (pc' : Nat), retOK ret (wr b).1 → va_P D vwCl (cw tI tZ tG ad (wr b).2) H' → va_S A s.heap H' locs' → decode cc pc' = .ok (rIns (wr b).1, 1) → W p l e R s m args below meth c H' locs' cells slots Q (F0 m pc' ls' ((wr b).1.map (cv ad)).toList)) →
    W p l e R s m args below meth c H locs cells slots Q (F0 m pc ls (st.map (cv ad)))
section Rules
variable {α : Type} {sc : Option (Nat × (Nat → Int32))} {wr : α → Option Value × Mem} {own : String} {cc : ByteArray} {ret : Option FieldType} {dp pc : Nat} {L : List (Option Value)} {st : List Value} {M : Mem} {o o1 o2 : Option α}
theorem e_none : Ev sc wr own cc ret dp pc L st M none := fun b hb => by cases hb
theorem e_iconst {n : Int} {v : Int32} (hd : decode cc pc = .ok (.iconst n, 1)) (hv : Int32.ofInt n = v) (k : Ev sc wr own cc ret dp (pc + 1) L (.int v :: st) M o) : Ev sc wr own cc ret dp pc L (st) M o := by
  intro b hb p l e R s m args below meth c H locs cells slots Q D tI tZ tG ad A ls hF hP hS hl hX
  exact lv_iconst hF.1 hF.2.1 hd hv (k b hb p l e R s m args below meth c H locs cells slots Q D tI tZ tG ad A ls hF hP hS hl hX)
theorem e_bipush {n : Int} {v : Int32} (hd : decode cc pc = .ok (.bipush n, 2)) (hv : (Int8.ofInt n).toInt32 = v) (k : Ev sc wr own cc ret dp (pc + 2) L (.int v :: st) M o) : Ev sc wr own cc ret dp pc L (st) M o := by
  intro b hb p l e R s m args below meth c H locs cells slots Q D tI tZ tG ad A ls hF hP hS hl hX
  exact lv_bipush hF.1 hF.2.1 hd hv (k b hb p l e R s m args below meth c H locs cells slots Q D tI tZ tG ad A ls hF hP hS hl hX)
theorem e_sipush {n : Int} {v : Int32} (hd : decode cc pc = .ok (.sipush n, 3)) (hv : (Int16.ofInt n).toInt32 = v) (k : Ev sc wr own cc ret dp (pc + 3) L (.int v :: st) M o) : Ev sc wr own cc ret dp pc L (st) M o := by
  intro b hb p l e R s m args below meth c H locs cells slots Q D tI tZ tG ad A ls hF hP hS hl hX
  exact lv_sipush hF.1 hF.2.1 hd hv (k b hb p l e R s m args below meth c H locs cells slots Q D tI tZ tG ad A ls hF hP hS hl hX)
theorem e_lconst {n : Fin 2} {v : Int64} (hd : decode cc pc = .ok (.lconst n, 1)) (hv : Int64.ofNat (n : Nat) = v) (k : Ev sc wr own cc ret dp (pc + 1) L (.long v :: st) M o) : Ev sc wr own cc ret dp pc L (st) M o := by
  intro b hb p l e R s m args below meth c H locs cells slots Q D tI tZ tG ad A ls hF hP hS hl hX
  exact lv_lconst hF.1 hF.2.1 hd hv (k b hb p l e R s m args below meth c H locs cells slots Q D tI tZ tG ad A ls hF hP hS hl hX)
theorem e_iload_n {k : Fin 4} {x : Int32} (hd : decode cc pc = .ok (.iload_n k, 1)) (hx : L[(k : Nat)]? = some (some (.int x))) (k : Ev sc wr own cc ret dp (pc + 1) L (.int x :: st) M o) : Ev sc wr own cc ret dp pc L (st) M o := by
  intro b hb p l e R s m args below meth c H locs cells slots Q D tI tZ tG ad A ls hF hP hS hl hX
  exact lv_iload_n hF.1 hF.2.1 hd rfl (hl.2.2 _ _ hx) (k b hb p l e R s m args below meth c H locs cells slots Q D tI tZ tG ad A ls hF hP hS hl hX)
theorem e_iload {i : Nat} {x : Int32} (hd : decode cc pc = .ok (.iload i, 2)) (hx : L[i]? = some (some (.int x))) (k : Ev sc wr own cc ret dp (pc + 2) L (.int x :: st) M o) : Ev sc wr own cc ret dp pc L (st) M o := by
  intro b hb p l e R s m args below meth c H locs cells slots Q D tI tZ tG ad A ls hF hP hS hl hX
  exact lv_iload hF.1 hF.2.1 hd (hl.2.2 _ _ hx) (k b hb p l e R s m args below meth c H locs cells slots Q D tI tZ tG ad A ls hF hP hS hl hX)
theorem e_lload_n {k : Fin 4} {x : Int64} (hd : decode cc pc = .ok (.lload_n k, 1)) (hx : L[(k : Nat)]? = some (some (.long x))) (k : Ev sc wr own cc ret dp (pc + 1) L (.long x :: st) M o) : Ev sc wr own cc ret dp pc L (st) M o := by
  intro b hb p l e R s m args below meth c H locs cells slots Q D tI tZ tG ad A ls hF hP hS hl hX
  exact lv_lload_n hF.1 hF.2.1 hd rfl (hl.2.2 _ _ hx) (k b hb p l e R s m args below meth c H locs cells slots Q D tI tZ tG ad A ls hF hP hS hl hX)
theorem e_lload {i : Nat} {x : Int64} (hd : decode cc pc = .ok (.lload i, 2)) (hx : L[i]? = some (some (.long x))) (k : Ev sc wr own cc ret dp (pc + 2) L (.long x :: st) M o) : Ev sc wr own cc ret dp pc L (st) M o := by
  intro b hb p l e R s m args below meth c H locs cells slots Q D tI tZ tG ad A ls hF hP hS hl hX
  exact lv_lload hF.1 hF.2.1 hd (hl.2.2 _ _ hx) (k b hb p l e R s m args below meth c H locs cells slots Q D tI tZ tG ad A ls hF hP hS hl hX)
theorem e_aload_n {k : Fin 4} {x : Nat} (hd : decode cc pc = .ok (.aload_n k, 1)) (hx : L[(k : Nat)]? = some (some (.ref x))) (k : Ev sc wr own cc ret dp (pc + 1) L (.ref x :: st) M o) : Ev sc wr own cc ret dp pc L (st) M o := by
  intro b hb p l e R s m args below meth c H locs cells slots Q D tI tZ tG ad A ls hF hP hS hl hX
  exact lv_aload_n hF.1 hF.2.1 hd rfl (hl.2.2 _ _ hx) (k b hb p l e R s m args below meth c H locs cells slots Q D tI tZ tG ad A ls hF hP hS hl hX)
theorem e_iadd {x y : Int32} (hd : decode cc pc = .ok (.iadd, 1)) (k : Ev sc wr own cc ret dp (pc + 1) L (.int (x + y) :: st) M o) : Ev sc wr own cc ret dp pc L (.int y :: .int x :: st) M o := by
  intro b hb p l e R s m args below meth c H locs cells slots Q D tI tZ tG ad A ls hF hP hS hl hX
  exact lv_iadd hF.1 hF.2.1 hd (k b hb p l e R s m args below meth c H locs cells slots Q D tI tZ tG ad A ls hF hP hS hl hX)
theorem e_isub {x y : Int32} (hd : decode cc pc = .ok (.isub, 1)) (k : Ev sc wr own cc ret dp (pc + 1) L (.int (x - y) :: st) M o) : Ev sc wr own cc ret dp pc L (.int y :: .int x :: st) M o := by
  intro b hb p l e R s m args below meth c H locs cells slots Q D tI tZ tG ad A ls hF hP hS hl hX
  exact lv_isub hF.1 hF.2.1 hd (k b hb p l e R s m args below meth c H locs cells slots Q D tI tZ tG ad A ls hF hP hS hl hX)
theorem e_imul {x y : Int32} (hd : decode cc pc = .ok (.imul, 1)) (k : Ev sc wr own cc ret dp (pc + 1) L (.int (x * y) :: st) M o) : Ev sc wr own cc ret dp pc L (.int y :: .int x :: st) M o := by
  intro b hb p l e R s m args below meth c H locs cells slots Q D tI tZ tG ad A ls hF hP hS hl hX
  exact lv_imul hF.1 hF.2.1 hd (k b hb p l e R s m args below meth c H locs cells slots Q D tI tZ tG ad A ls hF hP hS hl hX)
theorem e_iand {x y : Int32} (hd : decode cc pc = .ok (.iand, 1)) (k : Ev sc wr own cc ret dp (pc + 1) L (.int (x &&& y) :: st) M o) : Ev sc wr own cc ret dp pc L (.int y :: .int x :: st) M o := by
  intro b hb p l e R s m args below meth c H locs cells slots Q D tI tZ tG ad A ls hF hP hS hl hX
  exact lv_iand hF.1 hF.2.1 hd (k b hb p l e R s m args below meth c H locs cells slots Q D tI tZ tG ad A ls hF hP hS hl hX)
theorem e_ior {x y : Int32} (hd : decode cc pc = .ok (.ior, 1)) (k : Ev sc wr own cc ret dp (pc + 1) L (.int (x ||| y) :: st) M o) : Ev sc wr own cc ret dp pc L (.int y :: .int x :: st) M o := by
  intro b hb p l e R s m args below meth c H locs cells slots Q D tI tZ tG ad A ls hF hP hS hl hX
  exact lv_ior hF.1 hF.2.1 hd (k b hb p l e R s m args below meth c H locs cells slots Q D tI tZ tG ad A ls hF hP hS hl hX)
theorem e_ixor {x y : Int32} (hd : decode cc pc = .ok (.ixor, 1)) (k : Ev sc wr own cc ret dp (pc + 1) L (.int (x ^^^ y) :: st) M o) : Ev sc wr own cc ret dp pc L (.int y :: .int x :: st) M o := by
  intro b hb p l e R s m args below meth c H locs cells slots Q D tI tZ tG ad A ls hF hP hS hl hX
  exact lv_ixor hF.1 hF.2.1 hd (k b hb p l e R s m args below meth c H locs cells slots Q D tI tZ tG ad A ls hF hP hS hl hX)
theorem e_ishl {x y : Int32} (hd : decode cc pc = .ok (.ishl, 1)) (k : Ev sc wr own cc ret dp (pc + 1) L (.int (x <<< (y &&& 31)) :: st) M o) : Ev sc wr own cc ret dp pc L (.int y :: .int x :: st) M o := by
  intro b hb p l e R s m args below meth c H locs cells slots Q D tI tZ tG ad A ls hF hP hS hl hX
  exact lv_ishl hF.1 hF.2.1 hd (k b hb p l e R s m args below meth c H locs cells slots Q D tI tZ tG ad A ls hF hP hS hl hX)
theorem e_ishr {x y : Int32} (hd : decode cc pc = .ok (.ishr, 1)) (k : Ev sc wr own cc ret dp (pc + 1) L (.int (x >>> (y &&& 31)) :: st) M o) : Ev sc wr own cc ret dp pc L (.int y :: .int x :: st) M o := by
  intro b hb p l e R s m args below meth c H locs cells slots Q D tI tZ tG ad A ls hF hP hS hl hX
  exact lv_ishr hF.1 hF.2.1 hd (k b hb p l e R s m args below meth c H locs cells slots Q D tI tZ tG ad A ls hF hP hS hl hX)
theorem e_iushr {x y : Int32} (hd : decode cc pc = .ok (.iushr, 1)) (k : Ev sc wr own cc ret dp (pc + 1) L (.int ((x.toUInt32 >>> (y.toUInt32 &&& Int32.toUInt32 31)).toInt32) :: st) M o) : Ev sc wr own cc ret dp pc L (.int y :: .int x :: st) M o := by
  intro b hb p l e R s m args below meth c H locs cells slots Q D tI tZ tG ad A ls hF hP hS hl hX
  exact lv_iushr hF.1 hF.2.1 hd rfl (k b hb p l e R s m args below meth c H locs cells slots Q D tI tZ tG ad A ls hF hP hS hl hX)
theorem e_ladd {x y : Int64} (hd : decode cc pc = .ok (.ladd, 1)) (k : Ev sc wr own cc ret dp (pc + 1) L (.long (x + y) :: st) M o) : Ev sc wr own cc ret dp pc L (.long y :: .long x :: st) M o := by
  intro b hb p l e R s m args below meth c H locs cells slots Q D tI tZ tG ad A ls hF hP hS hl hX
  exact lv_ladd hF.1 hF.2.1 hd (k b hb p l e R s m args below meth c H locs cells slots Q D tI tZ tG ad A ls hF hP hS hl hX)
theorem e_lsub {x y : Int64} (hd : decode cc pc = .ok (.lsub, 1)) (k : Ev sc wr own cc ret dp (pc + 1) L (.long (x - y) :: st) M o) : Ev sc wr own cc ret dp pc L (.long y :: .long x :: st) M o := by
  intro b hb p l e R s m args below meth c H locs cells slots Q D tI tZ tG ad A ls hF hP hS hl hX
  exact lv_lsub hF.1 hF.2.1 hd (k b hb p l e R s m args below meth c H locs cells slots Q D tI tZ tG ad A ls hF hP hS hl hX)
theorem e_lmul {x y : Int64} (hd : decode cc pc = .ok (.lmul, 1)) (k : Ev sc wr own cc ret dp (pc + 1) L (.long (x * y) :: st) M o) : Ev sc wr own cc ret dp pc L (.long y :: .long x :: st) M o := by
  intro b hb p l e R s m args below meth c H locs cells slots Q D tI tZ tG ad A ls hF hP hS hl hX
  exact lv_lmul hF.1 hF.2.1 hd (k b hb p l e R s m args below meth c H locs cells slots Q D tI tZ tG ad A ls hF hP hS hl hX)
theorem e_lneg {x : Int64} (hd : decode cc pc = .ok (.lneg, 1)) (k : Ev sc wr own cc ret dp (pc + 1) L (.long (-x) :: st) M o) : Ev sc wr own cc ret dp pc L (.long x :: st) M o := by
  intro b hb p l e R s m args below meth c H locs cells slots Q D tI tZ tG ad A ls hF hP hS hl hX
  exact lv_lneg hF.1 hF.2.1 hd (k b hb p l e R s m args below meth c H locs cells slots Q D tI tZ tG ad A ls hF hP hS hl hX)
theorem e_i2l {x : Int32} (hd : decode cc pc = .ok (.i2l, 1)) (k : Ev sc wr own cc ret dp (pc + 1) L (.long x.toInt64 :: st) M o) : Ev sc wr own cc ret dp pc L (.int x :: st) M o := by
  intro b hb p l e R s m args below meth c H locs cells slots Q D tI tZ tG ad A ls hF hP hS hl hX
  exact lv_i2l hF.1 hF.2.1 hd rfl (k b hb p l e R s m args below meth c H locs cells slots Q D tI tZ tG ad A ls hF hP hS hl hX)
theorem e_l2i {x : Int64} (hd : decode cc pc = .ok (.l2i, 1)) (k : Ev sc wr own cc ret dp (pc + 1) L (.int x.toInt32 :: st) M o) : Ev sc wr own cc ret dp pc L (.long x :: st) M o := by
  intro b hb p l e R s m args below meth c H locs cells slots Q D tI tZ tG ad A ls hF hP hS hl hX
  exact lv_l2i hF.1 hF.2.1 hd rfl (k b hb p l e R s m args below meth c H locs cells slots Q D tI tZ tG ad A ls hF hP hS hl hX)
theorem e_lcmp {x y : Int64} (hd : decode cc pc = .ok (.lcmp, 1)) (k : Ev sc wr own cc ret dp (pc + 1) L (.int (lg_cmp x y) :: st) M o) : Ev sc wr own cc ret dp pc L (.long y :: .long x :: st) M o := by
  intro b hb p l e R s m args below meth c H locs cells slots Q D tI tZ tG ad A ls hF hP hS hl hX
  exact W.lcmp hF.1 hF.2.1 hd (k b hb p l e R s m args below meth c H locs cells slots Q D tI tZ tG ad A ls hF hP hS hl hX)
theorem e_ldc {i : Nat} {v : Int32} (hd : decode cc pc = .ok (.ldc i, 2)) (hc : Jvm.Cond.constant own i v ∈ lw_good) (k : Ev sc wr own cc ret dp (pc + 2) L (.int v :: st) M o) : Ev sc wr own cc ret dp pc L st M o := by
  intro b hb p l e R s m args below meth c H locs cells slots Q D tI tZ tG ad A ls hF hP hS hl hX
  exact lv_ldc hF.1 hF.2.1 hF.2.2.2.1 (hF.2.2.2.2.1 _ hc) hd (k b hb p l e R s m args below meth c H locs cells slots Q D tI tZ tG ad A ls hF hP hS hl hX)
theorem e_ldcw {i : Nat} {v : Int32} (hd : decode cc pc = .ok (.ldc_w i, 3)) (hc : Jvm.Cond.constant own i v ∈ lw_good) (k : Ev sc wr own cc ret dp (pc + 3) L (.int v :: st) M o) : Ev sc wr own cc ret dp pc L st M o := by
  intro b hb p l e R s m args below meth c H locs cells slots Q D tI tZ tG ad A ls hF hP hS hl hX
  exact lv_ldcw hF.1 hF.2.1 hF.2.2.2.1 (hF.2.2.2.2.1 _ hc) hd (k b hb p l e R s m args below meth c H locs cells slots Q D tI tZ tG ad A ls hF hP hS hl hX)
theorem e_ldc2 {i : Nat} {v : Int64} (hd : decode cc pc = .ok (.ldc2_w i, 3)) (hc : Jvm.Cond.constantLong own i v ∈ lw_good) (k : Ev sc wr own cc ret dp (pc + 3) L (.long v :: st) M o) : Ev sc wr own cc ret dp pc L st M o := by
  intro b hb p l e R s m args below meth c H locs cells slots Q D tI tZ tG ad A ls hF hP hS hl hX
  exact lv_ldc2 hF.1 hF.2.1 hF.2.2.2.1 (hF.2.2.2.2.1 _ hc) hd (k b hb p l e R s m args below meth c H locs cells slots Q D tI tZ tG ad A ls hF hP hS hl hX)
theorem e_idiv {x y : Int32} (hd : decode cc pc = .ok (.idiv, 1)) (k : Ev sc wr own cc ret dp (pc + 1) L (.int (x / y) :: st) M o) : Ev sc wr own cc ret dp pc L (.int y :: .int x :: st) M (if y = 0 then none else o) := by
  intro b hb p l e R s m args below meth c H locs cells slots Q D tI tZ tG ad A ls hF hP hS hl hX
  by_cases h0 : y = 0
  · rw [if_pos h0] at hb; cases hb
  · rw [if_neg h0] at hb
    exact lv_idiv hF.1 hF.2.1 hd h0 (k b hb p l e R s m args below meth c H locs cells slots Q D tI tZ tG ad A ls hF hP hS hl hX)
theorem e_idiv' {x y : Int32} (hd : decode cc pc = .ok (.idiv, 1)) (h0 : ¬ y = 0) (k : Ev sc wr own cc ret dp (pc + 1) L (.int (x / y) :: st) M o) : Ev sc wr own cc ret dp pc L (.int y :: .int x :: st) M o := by
  intro b hb p l e R s m args below meth c H locs cells slots Q D tI tZ tG ad A ls hF hP hS hl hX
  exact lv_idiv hF.1 hF.2.1 hd h0 (k b hb p l e R s m args below meth c H locs cells slots Q D tI tZ tG ad A ls hF hP hS hl hX)
theorem e_irem {x y : Int32} (hd : decode cc pc = .ok (.irem, 1)) (k : Ev sc wr own cc ret dp (pc + 1) L (.int (x - x / y * y) :: st) M o) : Ev sc wr own cc ret dp pc L (.int y :: .int x :: st) M (if y = 0 then none else o) := by
  intro b hb p l e R s m args below meth c H locs cells slots Q D tI tZ tG ad A ls hF hP hS hl hX
  by_cases h0 : y = 0
  · rw [if_pos h0] at hb; cases hb
  · rw [if_neg h0] at hb
    exact lv_irem hF.1 hF.2.1 hd h0 (k b hb p l e R s m args below meth c H locs cells slots Q D tI tZ tG ad A ls hF hP hS hl hX)
theorem e_irem' {x y : Int32} (hd : decode cc pc = .ok (.irem, 1)) (h0 : ¬ y = 0) (k : Ev sc wr own cc ret dp (pc + 1) L (.int (x - x / y * y) :: st) M o) : Ev sc wr own cc ret dp pc L (.int y :: .int x :: st) M o := by
  intro b hb p l e R s m args below meth c H locs cells slots Q D tI tZ tG ad A ls hF hP hS hl hX
  exact lv_irem hF.1 hF.2.1 hd h0 (k b hb p l e R s m args below meth c H locs cells slots Q D tI tZ tG ad A ls hF hP hS hl hX)
theorem e_ldiv {x y : Int64} (hd : decode cc pc = .ok (.ldiv, 1)) (k : Ev sc wr own cc ret dp (pc + 1) L (.long (x / y) :: st) M o) : Ev sc wr own cc ret dp pc L (.long y :: .long x :: st) M (if y = 0 then none else o) := by
  intro b hb p l e R s m args below meth c H locs cells slots Q D tI tZ tG ad A ls hF hP hS hl hX
  by_cases h0 : y = 0
  · rw [if_pos h0] at hb; cases hb
  · rw [if_neg h0] at hb
    exact lv_ldiv hF.1 hF.2.1 hd h0 (k b hb p l e R s m args below meth c H locs cells slots Q D tI tZ tG ad A ls hF hP hS hl hX)
theorem e_ldiv' {x y : Int64} (hd : decode cc pc = .ok (.ldiv, 1)) (h0 : ¬ y = 0) (k : Ev sc wr own cc ret dp (pc + 1) L (.long (x / y) :: st) M o) : Ev sc wr own cc ret dp pc L (.long y :: .long x :: st) M o := by
  intro b hb p l e R s m args below meth c H locs cells slots Q D tI tZ tG ad A ls hF hP hS hl hX
  exact lv_ldiv hF.1 hF.2.1 hd h0 (k b hb p l e R s m args below meth c H locs cells slots Q D tI tZ tG ad A ls hF hP hS hl hX)
theorem e_lrem {x y : Int64} (hd : decode cc pc = .ok (.lrem, 1)) (k : Ev sc wr own cc ret dp (pc + 1) L (.long (x - x / y * y) :: st) M o) : Ev sc wr own cc ret dp pc L (.long y :: .long x :: st) M (if y = 0 then none else o) := by
  intro b hb p l e R s m args below meth c H locs cells slots Q D tI tZ tG ad A ls hF hP hS hl hX
  by_cases h0 : y = 0
  · rw [if_pos h0] at hb; cases hb
  · rw [if_neg h0] at hb
    exact lv_lrem hF.1 hF.2.1 hd h0 (k b hb p l e R s m args below meth c H locs cells slots Q D tI tZ tG ad A ls hF hP hS hl hX)
theorem e_lrem' {x y : Int64} (hd : decode cc pc = .ok (.lrem, 1)) (h0 : ¬ y = 0) (k : Ev sc wr own cc ret dp (pc + 1) L (.long (x - x / y * y) :: st) M o) : Ev sc wr own cc ret dp pc L (.long y :: .long x :: st) M o := by
  intro b hb p l e R s m args below meth c H locs cells slots Q D tI tZ tG ad A ls hF hP hS hl hX
  exact lv_lrem hF.1 hF.2.1 hd h0 (k b hb p l e R s m args below meth c H locs cells slots Q D tI tZ tG ad A ls hF hP hS hl hX)
theorem e_dup {v : Value} (hd : decode cc pc = .ok (.dup, 1)) (hv : v.category = 1) (k : Ev sc wr own cc ret dp (pc + 1) L (v :: v :: st) M o) : Ev sc wr own cc ret dp pc L (v :: st) M o := by
  intro b hb p l e R s m args below meth c H locs cells slots Q D tI tZ tG ad A ls hF hP hS hl hX
  exact lv_dup hF.1 hF.2.1 hd ((cv_cat ad v).trans hv) (k b hb p l e R s m args below meth c H locs cells slots Q D tI tZ tG ad A ls hF hP hS hl hX)
theorem e_dup2 {v u : Value} (hd : decode cc pc = .ok (.dup2, 1)) (hv : v.category = 1) (hu : u.category = 1) (k : Ev sc wr own cc ret dp (pc + 1) L (v :: u :: v :: u :: st) M o) : Ev sc wr own cc ret dp pc L (v :: u :: st) M o := by
  intro b hb p l e R s m args below meth c H locs cells slots Q D tI tZ tG ad A ls hF hP hS hl hX
  exact lv_dup2_11 hF.1 hF.2.1 hd ((cv_cat ad v).trans hv) ((cv_cat ad u).trans hu) (k b hb p l e R s m args below meth c H locs cells slots Q D tI tZ tG ad A ls hF hP hS hl hX)
theorem e_goto {off : Int} (tgt : Nat) (hd : decode cc pc = .ok (.goto off, 3)) (ht : (pc : Int) + off = (tgt : Int)) (k : Ev sc wr own cc ret dp tgt L st M o) : Ev sc wr own cc ret dp pc L st M o := by
  intro b hb p l e R s m args below meth c H locs cells slots Q D tI tZ tG ad A ls hF hP hS hl hX
  exact lv_goto hF.1 hF.2.1 hd ht (k b hb p l e R s m args below meth c H locs cells slots Q D tI tZ tG ad A ls hF hP hS hl hX)
theorem e_if_eq {x : Int32} {off : Int} (tgt : Nat) (hd : decode cc pc = .ok (.ifCond .eq off, 3)) (ht : (pc : Int) + off = (tgt : Int)) (k1 : x = 0 → Ev sc wr own cc ret dp tgt L st M o1) (k2 : ¬ x = 0 → Ev sc wr own cc ret dp (pc + 3) L st M o2) : Ev sc wr own cc ret dp pc L (.int x :: st) M (if x = 0 then o1 else o2) := by
  intro b hb p l e R s m args below meth c H locs cells slots Q D tI tZ tG ad A ls hF hP hS hl hX
  refine lv_if_eq hF.1 hF.2.1 hd ht (fun h => ?_) (fun h => ?_)
  · rw [if_pos h] at hb
    exact k1 h b hb p l e R s m args below meth c H locs cells slots Q D tI tZ tG ad A ls hF hP hS hl hX
  · rw [if_neg h] at hb
    exact k2 h b hb p l e R s m args below meth c H locs cells slots Q D tI tZ tG ad A ls hF hP hS hl hX
theorem e_icmp_eq {x y : Int32} {off : Int} (tgt : Nat) (hd : decode cc pc = .ok (.if_icmp .eq off, 3)) (ht : (pc : Int) + off = (tgt : Int)) (k1 : x = y → Ev sc wr own cc ret dp tgt L st M o1) (k2 : ¬ x = y → Ev sc wr own cc ret dp (pc + 3) L st M o2) : Ev sc wr own cc ret dp pc L (.int y :: .int x :: st) M (if x = y then o1 else o2) := by
  intro b hb p l e R s m args below meth c H locs cells slots Q D tI tZ tG ad A ls hF hP hS hl hX
  refine lv_icmp_eq hF.1 hF.2.1 hd ht (fun h => ?_) (fun h => ?_)
  · rw [if_pos h] at hb
    exact k1 h b hb p l e R s m args below meth c H locs cells slots Q D tI tZ tG ad A ls hF hP hS hl hX
  · rw [if_neg h] at hb
    exact k2 h b hb p l e R s m args below meth c H locs cells slots Q D tI tZ tG ad A ls hF hP hS hl hX
theorem e_if_ne {x : Int32} {off : Int} (tgt : Nat) (hd : decode cc pc = .ok (.ifCond .ne off, 3)) (ht : (pc : Int) + off = (tgt : Int)) (k1 : x = 0 → Ev sc wr own cc ret dp (pc + 3) L st M o1) (k2 : ¬ x = 0 → Ev sc wr own cc ret dp tgt L st M o2) : Ev sc wr own cc ret dp pc L (.int x :: st) M (if x = 0 then o1 else o2) := by
  intro b hb p l e R s m args below meth c H locs cells slots Q D tI tZ tG ad A ls hF hP hS hl hX
  refine lv_if_ne hF.1 hF.2.1 hd ht (fun h => ?_) (fun h => ?_)
  · rw [if_neg h] at hb
    exact k2 h b hb p l e R s m args below meth c H locs cells slots Q D tI tZ tG ad A ls hF hP hS hl hX
  · rw [if_pos h] at hb
    exact k1 h b hb p l e R s m args below meth c H locs cells slots Q D tI tZ tG ad A ls hF hP hS hl hX
theorem e_icmp_ne {x y : Int32} {off : Int} (tgt : Nat) (hd : decode cc pc = .ok (.if_icmp .ne off, 3)) (ht : (pc : Int) + off = (tgt : Int)) (k1 : x = y → Ev sc wr own cc ret dp (pc + 3) L st M o1) (k2 : ¬ x = y → Ev sc wr own cc ret dp tgt L st M o2) : Ev sc wr own cc ret dp pc L (.int y :: .int x :: st) M (if x = y then o1 else o2) := by
  intro b hb p l e R s m args below meth c H locs cells slots Q D tI tZ tG ad A ls hF hP hS hl hX
  refine lv_icmp_ne hF.1 hF.2.1 hd ht (fun h => ?_) (fun h => ?_)
  · rw [if_neg h] at hb
    exact k2 h b hb p l e R s m args below meth c H locs cells slots Q D tI tZ tG ad A ls hF hP hS hl hX
  · rw [if_pos h] at hb
    exact k1 h b hb p l e R s m args below meth c H locs cells slots Q D tI tZ tG ad A ls hF hP hS hl hX
theorem e_if_lt {x : Int32} {off : Int} (tgt : Nat) (hd : decode cc pc = .ok (.ifCond .lt off, 3)) (ht : (pc : Int) + off = (tgt : Int)) (k1 : x < 0 → Ev sc wr own cc ret dp tgt L st M o1) (k2 : ¬ x < 0 → Ev sc wr own cc ret dp (pc + 3) L st M o2) : Ev sc wr own cc ret dp pc L (.int x :: st) M (if x < 0 then o1 else o2) := by
  intro b hb p l e R s m args below meth c H locs cells slots Q D tI tZ tG ad A ls hF hP hS hl hX
  refine lv_if_lt hF.1 hF.2.1 hd ht (fun h => ?_) (fun h => ?_)
  · rw [if_pos h] at hb
    exact k1 h b hb p l e R s m args below meth c H locs cells slots Q D tI tZ tG ad A ls hF hP hS hl hX
  · rw [if_neg h] at hb
    exact k2 h b hb p l e R s m args below meth c H locs cells slots Q D tI tZ tG ad A ls hF hP hS hl hX
theorem e_icmp_lt {x y : Int32} {off : Int} (tgt : Nat) (hd : decode cc pc = .ok (.if_icmp .lt off, 3)) (ht : (pc : Int) + off = (tgt : Int)) (k1 : x < y → Ev sc wr own cc ret dp tgt L st M o1) (k2 : ¬ x < y → Ev sc wr own cc ret dp (pc + 3) L st M o2) : Ev sc wr own cc ret dp pc L (.int y :: .int x :: st) M (if x < y then o1 else o2) := by
  intro b hb p l e R s m args below meth c H locs cells slots Q D tI tZ tG ad A ls hF hP hS hl hX
  refine lv_icmp_lt hF.1 hF.2.1 hd ht (fun h => ?_) (fun h => ?_)
  · rw [if_pos h] at hb
    exact k1 h b hb p l e R s m args below meth c H locs cells slots Q D tI tZ tG ad A ls hF hP hS hl hX
  · rw [if_neg h] at hb
    exact k2 h b hb p l e R s m args below meth c H locs cells slots Q D tI tZ tG ad A ls hF hP hS hl hX
theorem e_if_ge {x : Int32} {off : Int} (tgt : Nat) (hd : decode cc pc = .ok (.ifCond .ge off, 3)) (ht : (pc : Int) + off = (tgt : Int)) (k1 : 0 ≤ x → Ev sc wr own cc ret dp tgt L st M o1) (k2 : ¬ 0 ≤ x → Ev sc wr own cc ret dp (pc + 3) L st M o2) : Ev sc wr own cc ret dp pc L (.int x :: st) M (if 0 ≤ x then o1 else o2) := by
  intro b hb p l e R s m args below meth c H locs cells slots Q D tI tZ tG ad A ls hF hP hS hl hX
  refine lv_if_ge hF.1 hF.2.1 hd ht (fun h => ?_) (fun h => ?_)
  · rw [if_pos h] at hb
    exact k1 h b hb p l e R s m args below meth c H locs cells slots Q D tI tZ tG ad A ls hF hP hS hl hX
  · rw [if_neg h] at hb
    exact k2 h b hb p l e R s m args below meth c H locs cells slots Q D tI tZ tG ad A ls hF hP hS hl hX
theorem e_icmp_ge {x y : Int32} {off : Int} (tgt : Nat) (hd : decode cc pc = .ok (.if_icmp .ge off, 3)) (ht : (pc : Int) + off = (tgt : Int)) (k1 : y ≤ x → Ev sc wr own cc ret dp tgt L st M o1) (k2 : ¬ y ≤ x → Ev sc wr own cc ret dp (pc + 3) L st M o2) : Ev sc wr own cc ret dp pc L (.int y :: .int x :: st) M (if y ≤ x then o1 else o2) := by
  intro b hb p l e R s m args below meth c H locs cells slots Q D tI tZ tG ad A ls hF hP hS hl hX
  refine lv_icmp_ge hF.1 hF.2.1 hd ht (fun h => ?_) (fun h => ?_)
  · rw [if_pos h] at hb
    exact k1 h b hb p l e R s m args below meth c H locs cells slots Q D tI tZ tG ad A ls hF hP hS hl hX
  · rw [if_neg h] at hb
    exact k2 h b hb p l e R s m args below meth c H locs cells slots Q D tI tZ tG ad A ls hF hP hS hl hX
theorem e_if_gt {x : Int32} {off : Int} (tgt : Nat) (hd : decode cc pc = .ok (.ifCond .gt off, 3)) (ht : (pc : Int) + off = (tgt : Int)) (k1 : 0 < x → Ev sc wr own cc ret dp tgt L st M o1) (k2 : ¬ 0 < x → Ev sc wr own cc ret dp (pc + 3) L st M o2) : Ev sc wr own cc ret dp pc L (.int x :: st) M (if 0 < x then o1 else o2) := by
  intro b hb p l e R s m args below meth c H locs cells slots Q D tI tZ tG ad A ls hF hP hS hl hX
  refine lv_if_gt hF.1 hF.2.1 hd ht (fun h => ?_) (fun h => ?_)
  · rw [if_pos h] at hb
    exact k1 h b hb p l e R s m args below meth c H locs cells slots Q D tI tZ tG ad A ls hF hP hS hl hX
  · rw [if_neg h] at hb
    exact k2 h b hb p l e R s m args below meth c H locs cells slots Q D tI tZ tG ad A ls hF hP hS hl hX
theorem e_icmp_gt {x y : Int32} {off : Int} (tgt : Nat) (hd : decode cc pc = .ok (.if_icmp .gt off, 3)) (ht : (pc : Int) + off = (tgt : Int)) (k1 : y < x → Ev sc wr own cc ret dp tgt L st M o1) (k2 : ¬ y < x → Ev sc wr own cc ret dp (pc + 3) L st M o2) : Ev sc wr own cc ret dp pc L (.int y :: .int x :: st) M (if y < x then o1 else o2) := by
  intro b hb p l e R s m args below meth c H locs cells slots Q D tI tZ tG ad A ls hF hP hS hl hX
  refine lv_icmp_gt hF.1 hF.2.1 hd ht (fun h => ?_) (fun h => ?_)
  · rw [if_pos h] at hb
    exact k1 h b hb p l e R s m args below meth c H locs cells slots Q D tI tZ tG ad A ls hF hP hS hl hX
  · rw [if_neg h] at hb
    exact k2 h b hb p l e R s m args below meth c H locs cells slots Q D tI tZ tG ad A ls hF hP hS hl hX
theorem e_if_le {x : Int32} {off : Int} (tgt : Nat) (hd : decode cc pc = .ok (.ifCond .le off, 3)) (ht : (pc : Int) + off = (tgt : Int)) (k1 : x ≤ 0 → Ev sc wr own cc ret dp tgt L st M o1) (k2 : ¬ x ≤ 0 → Ev sc wr own cc ret dp (pc + 3) L st M o2) : Ev sc wr own cc ret dp pc L (.int x :: st) M (if x ≤ 0 then o1 else o2) := by
  intro b hb p l e R s m args below meth c H locs cells slots Q D tI tZ tG ad A ls hF hP hS hl hX
  refine lv_if_le hF.1 hF.2.1 hd ht (fun h => ?_) (fun h => ?_)
  · rw [if_pos h] at hb
    exact k1 h b hb p l e R s m args below meth c H locs cells slots Q D tI tZ tG ad A ls hF hP hS hl hX
  · rw [if_neg h] at hb
    exact k2 h b hb p l e R s m args below meth c H locs cells slots Q D tI tZ tG ad A ls hF hP hS hl hX
theorem e_icmp_le {x y : Int32} {off : Int} (tgt : Nat) (hd : decode cc pc = .ok (.if_icmp .le off, 3)) (ht : (pc : Int) + off = (tgt : Int)) (k1 : x ≤ y → Ev sc wr own cc ret dp tgt L st M o1) (k2 : ¬ x ≤ y → Ev sc wr own cc ret dp (pc + 3) L st M o2) : Ev sc wr own cc ret dp pc L (.int y :: .int x :: st) M (if x ≤ y then o1 else o2) := by
  intro b hb p l e R s m args below meth c H locs cells slots Q D tI tZ tG ad A ls hF hP hS hl hX
  refine lv_icmp_le hF.1 hF.2.1 hd ht (fun h => ?_) (fun h => ?_)
  · rw [if_pos h] at hb
    exact k1 h b hb p l e R s m args below meth c H locs cells slots Q D tI tZ tG ad A ls hF hP hS hl hX
  · rw [if_neg h] at hb
    exact k2 h b hb p l e R s m args below meth c H locs cells slots Q D tI tZ tG ad A ls hF hP hS hl hX
theorem e_istore_n {k0 : Fin 4} {x : Int32} (L' : List (Option Value)) (hd : decode cc pc = .ok (.istore_n k0, 1)) (hi : (k0 : Nat) < L.length) (hn : noL2 L (k0 : Nat) = true) (hL : L.set (k0 : Nat) (some (.int x)) = L') (k : Ev sc wr own cc ret dp (pc + 1) L' st M o) : Ev sc wr own cc ret dp pc L (.int x :: st) M o := by
  subst hL
  intro b hb p l e R s m args below meth c H locs cells slots Q D tI tZ tG ad A ls hF hP hS hl hX
  exact lv_istore_n hF.1 hF.2.1 hd rfl hl.has hi rfl (fun ls' hl' => (k b hb p l e R s m args below meth c H locs cells slots Q D tI tZ tG ad A ls' (by rw [List.length_set]; exact hF) hP hS (lh_store (x := .int x) hi hn hl') hX))
theorem e_istore {i : Nat} {x : Int32} (L' : List (Option Value)) (hd : decode cc pc = .ok (.istore i, 2)) (hi : i < L.length) (hn : noL2 L i = true) (hL : L.set i (some (.int x)) = L') (k : Ev sc wr own cc ret dp (pc + 2) L' st M o) : Ev sc wr own cc ret dp pc L (.int x :: st) M o := by
  subst hL
  intro b hb p l e R s m args below meth c H locs cells slots Q D tI tZ tG ad A ls hF hP hS hl hX
  exact lv_istore hF.1 hF.2.1 hd hl.has hi rfl (fun ls' hl' => (k b hb p l e R s m args below meth c H locs cells slots Q D tI tZ tG ad A ls' (by rw [List.length_set]; exact hF) hP hS (lh_store (x := .int x) hi hn hl') hX))
theorem e_lstore_n {k0 : Fin 4} {x : Int64} (L' : List (Option Value)) (hd : decode cc pc = .ok (.lstore_n k0, 1)) (hi : (k0 : Nat) + 1 < L.length) (hn : noL2 L (k0 : Nat) = true) (hL : (L.set (k0 : Nat) (some (.long x))).set ((k0 : Nat) + 1) none = L') (k : Ev sc wr own cc ret dp (pc + 1) L' st M o) : Ev sc wr own cc ret dp pc L (.long x :: st) M o := by
  subst hL
  intro b hb p l e R s m args below meth c H locs cells slots Q D tI tZ tG ad A ls hF hP hS hl hX
  exact lv_lstore_n hF.1 hF.2.1 hd rfl hl.has hi rfl (fun ls' hl' => (k b hb p l e R s m args below meth c H locs cells slots Q D tI tZ tG ad A ls' (by rw [List.length_set, List.length_set]; exact hF) hP hS (lh_store2 (x := .long x) (by omega) hn hl') hX))
theorem e_lstore {i : Nat} {x : Int64} (L' : List (Option Value)) (hd : decode cc pc = .ok (.lstore i, 2)) (hi : i + 1 < L.length) (hn : noL2 L i = true) (hL : (L.set i (some (.long x))).set (i + 1) none = L') (k : Ev sc wr own cc ret dp (pc + 2) L' st M o) : Ev sc wr own cc ret dp pc L (.long x :: st) M o := by
  subst hL
  intro b hb p l e R s m args below meth c H locs cells slots Q D tI tZ tG ad A ls hF hP hS hl hX
  exact lv_lstore hF.1 hF.2.1 hd hl.has hi rfl (fun ls' hl' => (k b hb p l e R s m args below meth c H locs cells slots Q D tI tZ tG ad A ls' (by rw [List.length_set, List.length_set]; exact hF) hP hS (lh_store2 (x := .long x) (by omega) hn hl') hX))
theorem e_iinc {i : Nat} {n : Int} {x : Int32} (L' : List (Option Value)) (hd : decode cc pc = .ok (.iinc i n, 3)) (hx : L[i]? = some (some (.int x))) (hi : i < L.length) (hn : noL2 L i = true) (hL : L.set i (some (.int (x + Int32.ofInt n))) = L') (k : Ev sc wr own cc ret dp (pc + 3) L' st M o) : Ev sc wr own cc ret dp pc L st M o := by
  subst hL
  intro b hb p l e R s m args below meth c H locs cells slots Q D tI tZ tG ad A ls hF hP hS hl hX
  obtain ⟨j, hj⟩ := List.getElem?_of_mem (asc_mem (ad := ad) (q := (i, .int x)) |>.mpr ⟨.int x, hx, rfl⟩)
  exact lv_iinc hF.1 hF.2.1 hd hl.has hj rfl hi rfl (fun ls' hl' => (k b hb p l e R s m args below meth c H locs cells slots Q D tI tZ tG ad A ls' (by rw [List.length_set]; exact hF) hP hS (lh_store (x := .int (x + Int32.ofInt n)) hi hn hl') hX))
theorem e_lookup {dflt : Int} {ps : Array (Int × Int)} {len : Nat} {x : Int32} {off : Int} (tgt : Nat) (hd : decode cc pc = .ok (.lookupswitch dflt ps, len)) (hp : (ps.toList.zip (ps.toList.drop 1)).all (fun (a, next) => a.1 < next.1) = true) (ho : Op.lookupswitch.offset ps.toList dflt x.toInt = off) (ht : (pc : Int) + off = (tgt : Int)) (k : Ev sc wr own cc ret dp tgt L st M o) : Ev sc wr own cc ret dp pc L (.int x :: st) M o := by
  intro b hb p l e R s m args below meth c H locs cells slots Q D tI tZ tG ad A ls hF hP hS hl hX
  exact lv_lookup hF.1 hF.2.1 hd hp ho ht (k b hb p l e R s m args below meth c H locs cells slots Q D tI tZ tG ad A ls hF hP hS hl hX)
theorem e_tableOut {dflt lo hi : Int} {offs : Array Int} {len : Nat} {x : Int32} (tgt : Nat) (hd : decode cc pc = .ok (.tableswitch dflt lo hi offs, len)) (h : x.toInt < lo ∨ hi < x.toInt) (ht : (pc : Int) + dflt = (tgt : Int)) (k : Ev sc wr own cc ret dp tgt L st M o) : Ev sc wr own cc ret dp pc L (.int x :: st) M o := by
  intro b hb p l e R s m args below meth c H locs cells slots Q D tI tZ tG ad A ls hF hP hS hl hX
  exact lv_tableOut hF.1 hF.2.1 hd h ht (k b hb p l e R s m args below meth c H locs cells slots Q D tI tZ tG ad A ls hF hP hS hl hX)
theorem e_tableIn {dflt lo hi : Int} {offs : Array Int} {len : Nat} {x : Int32} {off : Int} (tgt : Nat) (hd : decode cc pc = .ok (.tableswitch dflt lo hi offs, len)) (h1 : ¬ x.toInt < lo) (h2 : ¬ hi < x.toInt) (ho : offs[(x.toInt - lo).toNat]? = some off) (ht : (pc : Int) + off = (tgt : Int)) (k : Ev sc wr own cc ret dp tgt L st M o) : Ev sc wr own cc ret dp pc L (.int x :: st) M o := by
  intro b hb p l e R s m args below meth c H locs cells slots Q D tI tZ tG ad A ls hF hP hS hl hX
  exact lv_tableIn hF.1 hF.2.1 hd h1 h2 ho ht (k b hb p l e R s m args below meth c H locs cells slots Q D tI tZ tG ad A ls hF hP hS hl hX)
theorem e_split {cnd : Prop} {dc : Decidable cnd} (k1 : cnd → Ev sc wr own cc ret dp pc L st M o1) (k2 : ¬ cnd → Ev sc wr own cc ret dp pc L st M o2) : Ev sc wr own cc ret dp pc L st M (if cnd then o1 else o2) := by
  by_cases h : cnd
  · rw [if_pos h]; exact k1 h
  · rw [if_neg h]; exact k2 h
theorem e_iret {x : Int32} {ty : FieldType} {b0 : α} (hd : decode cc pc = .ok (.ireturn, 1)) (hr : ret = some ty) (hn : narrow ty (.int x) = .int x) (hw : wr b0 = (some (.int x), M)) : Ev sc wr own cc ret dp pc L [.int x] M (some b0) := by
  intro b hb p l e R s m args below meth c H locs cells slots Q D tI tZ tG ad A ls hF hP hS hl hX
  cases hb
  rw [hw] at hX
  exact hX H locs ls pc (Or.inr (Or.inr ⟨ty, x, hr, rfl, hn⟩)) hP hS hd
theorem e_zret {x : Int32} {b0 : α} (hd : decode cc pc = .ok (.ireturn, 1)) (hr : ret = some .boolean) (hw : wr b0 = (some (.int x), M)) : Ev sc wr own cc ret dp pc L [.int x] M (if x = 0 ∨ x = 1 then some b0 else none) := by
  by_cases h : x = 0 ∨ x = 1
  · rw [if_pos h]
    exact e_iret hd hr (by rcases h with rfl | rfl <;> rfl) hw
  · rw [if_neg h]; exact e_none
theorem e_lret {x : Int64} {b0 : α} (hd : decode cc pc = .ok (.lreturn, 1)) (hr : ret = some .long) (hw : wr b0 = (some (.long x), M)) : Ev sc wr own cc ret dp pc L [.long x] M (some b0) := by
  intro b hb p l e R s m args below meth c H locs cells slots Q D tI tZ tG ad A ls hF hP hS hl hX
  cases hb
  rw [hw] at hX
  exact hX H locs ls pc (Or.inr (Or.inl ⟨x, hr, rfl⟩)) hP hS hd
theorem e_vret {b0 : α} (hd : decode cc pc = .ok (.return_, 1)) (hr : ret = none) (hw : wr b0 = (none, M)) : Ev sc wr own cc ret dp pc L [] M (some b0) := by
  intro b hb p l e R s m args below meth c H locs cells slots Q D tI tZ tG ad A ls hF hP hS hl hX
  cases hb
  rw [hw] at hX
  exact hX H locs ls pc (Or.inl ⟨hr, rfl⟩) hP hS hd
end Rules
end
section
/-- what the rules ask of a class -/
def CI (ci : Nat) (C : String) (T : u_T) (N : Nat) (ty0 : Nat → FieldType) : Prop := vwCl[ci]? = some (C, T, N) ∧ (∀ w ∈ u_ws C T N, w ∈ lw_good) ∧ (∀ k, k < N → parseFieldDescriptor (T k).2.2.1 = some (ty0 k)) ∧ (∀ a, a < N → ∀ b, b < N → a ≠ b → (T a).2.1 ≠ (T b).2.1)
def Qe (D : va_G) (tI tZ tG : ClassId) (ad : Nat → Nat) (w : Option Value × Mem) : Array Value → State → Outcome → State → Prop := fun _ st oc t => oc = .returned (w.1.map (cv ad)) ∧ va_P D vwCl (cw tI tZ tG ad w.2) t.heap ∧ va_F (Aw ad) st t
def rmD (dp : Nat) : Room := { frames := dp, cells := 0, slots := 0, locals := 34 * dp }
def PcW (D : va_G) (tI tZ tG : ClassId) (ad : Nat → Nat) (as : List Value) (M : Mem) : Array Value → State → Prop := va_Pc (as.map (cv ad)) (fun U => Wd D tI tZ tG ad (Aw ad) U ∧ va_P D vwCl (cw tI tZ tG ad M) U.heap)
def SpO {α : Type} (wr : α → Option Value × Mem) (y : MethodName) (c1 : ByteArray) (nL : Nat) (ret : Option FieldType) (dp : Nat) (as : List Value) (M : Mem) (o : Option α) : Prop :=
  ∀ b, o = some b → ∀ (l : Launch) (D : va_G) (tI tZ tG : ClassId) (ad : Nat → Nat), Met l y (Cond.code y c1 nL ret :: lw_good) (rmD dp) (PcW D tI tZ tG ad as M) (Qe D tI tZ tG ad (wr b)) 0 0 (Aw ad)
section Heap
variable {α : Type} {sc : Option (Nat × (Nat → Int32))} {wr : α → Option Value × Mem} {own : String} {cc : ByteArray} {ret : Option FieldType} {dp pc : Nat} {L : List (Option Value)} {st : List Value} {M : Mem} {o o1 o2 : Option α}
theorem e_getI {k ci N j idx n0 : Nat} {C : String} {T : u_T} {ty0 : Nat → FieldType} {rs : List (Option Nat)} (h : CI ci C T N ty0) (hd : decode cc pc = .ok (.getfield idx, 3)) (hq : shl[k]? = some (ci + 3, n0, rs)) (hj : j < N) (hr : rs[j]? = some none) (hw : Cond.fieldLink own idx (T j).1 (T j).2.1 (T j).2.2.1 ∈ lw_good) (kk : Ev sc wr own cc ret dp (pc + 3) L (.int (M k j) :: st) M o) : Ev sc wr own cc ret dp pc L (.ref k :: st) M o := by
  intro b hb p l e R s m args below meth c H locs cells slots Q D tI tZ tG ad A ls hF hP hS hl hX
  exact va_get (v := .int (M k j)) hF.1 hF.2.1 hF.2.2.2.2.1 h.2.1 hF.2.2.2.1 hF.2.2.2.2.2.2.1.1 hP k (cw_get hq) h.1 j hj (hF.2.2.2.2.1 _ hw) (fun _ h => h) (by rw [List.getElem?_mapIdx, hr]; rfl) hd (kk b hb p l e R s m args below meth c H locs cells slots Q D tI tZ tG ad A ls hF hP hS hl hX)
theorem e_getR {k ci N j idx n0 r : Nat} {C : String} {T : u_T} {ty0 : Nat → FieldType} {rs : List (Option Nat)} (h : CI ci C T N ty0) (hd : decode cc pc = .ok (.getfield idx, 3)) (hq : shl[k]? = some (ci + 3, n0, rs)) (hj : j < N) (hr : rs[j]? = some (some r)) (hw : Cond.fieldLink own idx (T j).1 (T j).2.1 (T j).2.2.1 ∈ lw_good) (kk : Ev sc wr own cc ret dp (pc + 3) L (.ref r :: st) M o) : Ev sc wr own cc ret dp pc L (.ref k :: st) M o := by
  intro b hb p l e R s m args below meth c H locs cells slots Q D tI tZ tG ad A ls hF hP hS hl hX
  exact va_get (v := .ref (ad r)) hF.1 hF.2.1 hF.2.2.2.2.1 h.2.1 hF.2.2.2.1 hF.2.2.2.2.2.2.1.1 hP k (cw_get hq) h.1 j hj (hF.2.2.2.2.1 _ hw) (fun _ h => h) (by rw [List.getElem?_mapIdx, hr]; rfl) hd (kk b hb p l e R s m args below meth c H locs cells slots Q D tI tZ tG ad A ls hF hP hS hl hX)
theorem e_putI {k ci N j idx n0 : Nat} {x : Int32} {C : String} {T : u_T} {ty0 : Nat → FieldType} {ty : FieldType} {rs : List (Option Nat)} (h : CI ci C T N ty0) (hd : decode cc pc = .ok (.putfield idx, 3)) (hq : shl[k]? = some (ci + 3, n0, rs)) (hj : j < N) (hr : rs[j]? = some none) (hw : Cond.fieldLink own idx (T j).1 (T j).2.1 (T j).2.2.1 ∈ lw_good) (hf : (T j).2.2.2 = false) (hty : parseFieldDescriptor (T j).2.2.1 = some ty) (hn : narrow ty (.int x) = .int x) (hfit : fits ty (.int x) = true) (kk : Ev sc wr own cc ret dp (pc + 3) L st (up2 M k j x) o) : Ev sc wr own cc ret dp pc L (.int x :: .ref k :: st) M o := by
  intro b hb p l e R s m args below meth c H locs cells slots Q D tI tZ tG ad A ls hF hP hS hl hX
  have hW := hF.2.2.2.2.2.2.1
  refine va_put (v := .int x) hF.1 hF.2.1 hF.2.2.2.2.1 h.2.1 ty0 h.2.2.1 h.2.2.2 hF.2.2.2.1 hW.1 hP (cw_D hW.2.1 hW.2.2.1 M) hS k (cw_get hq) h.1 j hj (hF.2.2.2.2.1 _ hw) (fun _ h => h) hf hty hn hfit (by rw [List.length_mapIdx]; exact (List.getElem?_eq_some_iff.mp hr).1) hd (fun H1 locs1 hP1 _ hS1 => ?_)
  rw [ce_setI (tI := tI) (tZ := tZ) (tG := tG) (n := n0) hr, cw_set hq] at hP1
  exact kk b hb p l e R s m args below meth c H1 locs1 cells slots Q D tI tZ tG ad A ls hF hP1 hS1 hl hX
theorem e_iald' {k n : Nat} {i : Int32} {rs : List (Option Nat)} (hd : decode cc pc = .ok (.iaload, 1)) (hq : shl[k]? = some (0, n, rs)) (hi : inb i n = true) (kk : Ev sc wr own cc ret dp (pc + 1) L (.int (M k (ix i)) :: st) M o) : Ev sc wr own cc ret dp pc L (.int i :: .ref k :: st) M o := by
  intro b hb p l e R s m args below meth c H locs cells slots Q D tI tZ tG ad A ls hF hP hS hl hX
  exact va_iald hF.1 hF.2.1 hF.2.2.2.2.2.2.1.1 hP k 0 (cw_get hq) rfl (inb_in hi) hd (kk b hb p l e R s m args below meth c H locs cells slots Q D tI tZ tG ad A ls hF hP hS hl hX)
theorem e_if {t : Bool} (kk : t = true → Ev sc wr own cc ret dp pc L st M o) : Ev sc wr own cc ret dp pc L st M (if t then o else none) := by
  cases t with
  | true => exact kk rfl
  | false => exact e_none
theorem e_iast' {k n : Nat} {i x : Int32} {rs : List (Option Nat)} (hd : decode cc pc = .ok (.iastore, 1)) (hq : shl[k]? = some (0, n, rs)) (hi : inb i n = true) (kk : Ev sc wr own cc ret dp (pc + 1) L st (up2 M k (ix i) x) o) : Ev sc wr own cc ret dp pc L (.int x :: .int i :: .ref k :: st) M o := by
  intro b hb p l e R s m args below meth c H locs cells slots Q D tI tZ tG ad A ls hF hP hS hl hX
  have hW := hF.2.2.2.2.2.2.1
  refine va_iast hF.1 hF.2.1 hW.1 hP (cw_D hW.2.1 hW.2.2.1 M) hS k 0 (cw_get hq) rfl (inb_in hi) hd (fun H1 locs1 hP1 _ hS1 => ?_)
  have e1 := cw_set (tI := tI) (tZ := tZ) (tG := tG) (ad := ad) (M := M) hq (upd (M k) (ix i) x)
  rw [← up2] at e1
  exact kk b hb p l e R s m args below meth c H1 locs1 cells slots Q D tI tZ tG ad A ls hF (e1 ▸ hP1) hS1 hl hX
theorem e_zald' {k n : Nat} {i : Int32} {rs : List (Option Nat)} (hd : decode cc pc = .ok (.baload, 1)) (hq : shl[k]? = some (1, n, rs)) (hi : inb i n = true) (kk : Ev sc wr own cc ret dp (pc + 1) L (.int (M k (ix i)) :: st) M o) : Ev sc wr own cc ret dp pc L (.int i :: .ref k :: st) M o := by
  intro b hb p l e R s m args below meth c H locs cells slots Q D tI tZ tG ad A ls hF hP hS hl hX
  exact va_zald hF.1 hF.2.1 hF.2.2.2.2.2.2.1.1 hP k 1 (cw_get hq) rfl (inb_in hi) hd (kk b hb p l e R s m args below meth c H locs cells slots Q D tI tZ tG ad A ls hF hP hS hl hX)
theorem e_zast' {k n : Nat} {i x : Int32} {rs : List (Option Nat)} (hd : decode cc pc = .ok (.bastore, 1)) (hq : shl[k]? = some (1, n, rs)) (hi : inb i n = true) (hx : vp_nar .boolean x = x) (kk : Ev sc wr own cc ret dp (pc + 1) L st (up2 M k (ix i) x) o) : Ev sc wr own cc ret dp pc L (.int x :: .int i :: .ref k :: st) M o := by
  intro b hb p l e R s m args below meth c H locs cells slots Q D tI tZ tG ad A ls hF hP hS hl hX
  have hW := hF.2.2.2.2.2.2.1
  refine va_zast hF.1 hF.2.1 hW.1 hP (cw_D hW.2.1 hW.2.2.1 M) hS k 1 (cw_get hq) rfl (inb_in hi) hd (fun H1 locs1 hP1 _ hS1 => ?_)
  rw [hx] at hP1
  have e1 := cw_set (tI := tI) (tZ := tZ) (tG := tG) (ad := ad) (M := M) hq (upd (M k) (ix i) x)
  rw [← up2] at e1
  exact kk b hb p l e R s m args below meth c H1 locs1 cells slots Q D tI tZ tG ad A ls hF (e1 ▸ hP1) hS1 hl hX
theorem e_aald {k n r : Nat} {i : Int32} {rs : List (Option Nat)} (hd : decode cc pc = .ok (.aaload, 1)) (hq : shl[k]? = some (2, n, rs)) (hi : inb i n = true) (hr : rs.getD (ix i) none = some r) (kk : Ev sc wr own cc ret dp (pc + 1) L (.ref r :: st) M o) : Ev sc wr own cc ret dp pc L (.int i :: .ref k :: st) M o := by
  intro b hb p l e R s m args below meth c H locs cells slots Q D tI tZ tG ad A ls hF hP hS hl hX
  refine va_aldq hF.1 hF.2.1 hF.2.2.2.2.2.2.1.1 hP k 2 (cw_get hq) rfl (inb_in hi) hd ?_
  rw [hr]
  exact kk b hb p l e R s m args below meth c H locs cells slots Q D tI tZ tG ad A ls hF hP hS hl hX
theorem e_len {k n : Nat} {v : Int32} {rs : List (Option Nat)} (hd : decode cc pc = .ok (.arraylength, 1)) (hq : shl[k]? = some (0, n, rs)) (hv : Int32.ofNat n = v) (kk : Ev sc wr own cc ret dp (pc + 1) L (.int v :: st) M o) : Ev sc wr own cc ret dp pc L (.ref k :: st) M o := by
  intro b hb p l e R s m args below meth c H locs cells slots Q D tI tZ tG ad A ls hF hP hS hl hX
  exact va_alen hF.1 hF.2.1 hF.2.2.2.2.2.2.1.1 hP k 0 (cw_get hq) rfl hv hd (kk b hb p l e R s m args below meth c H locs cells slots Q D tI tZ tG ad A ls hF hP hS hl hX)
theorem e_iaT' {i : Int32} (hd : decode cc pc = .ok (.iaload, 1)) (hi : inb i 10 = true) (kk : Ev sc wr own cc ret dp (pc + 1) L (.int (tensF (ix i)) :: st) M o) : Ev sc wr own cc ret dp pc L (.int i :: .ref 75 :: st) M o := by
  intro b hb p l e R s m args below meth c H locs cells slots Q D tI tZ tG ad A ls hF hP hS hl hX
  exact va_ti hF.1 hF.2.1 hF.2.2.2.2.2.2.1.2.2.2.1.2 hS (inb_in hi) rfl hd (kk b hb p l e R s m args below meth c H locs cells slots Q D tI tZ tG ad A ls hF hP hS hl hX)
theorem e_iaY' {i : Int32} (hd : decode cc pc = .ok (.iaload, 1)) (hi : inb i 8 = true) (kk : Ev sc wr own cc ret dp (pc + 1) L (.int (signF (ix i)) :: st) M o) : Ev sc wr own cc ret dp pc L (.int i :: .ref 76 :: st) M o := by
  intro b hb p l e R s m args below meth c H locs cells slots Q D tI tZ tG ad A ls hF hP hS hl hX
  exact va_ti hF.1 hF.2.1 hF.2.2.2.2.2.2.1.2.2.2.2.1.2 hS (inb_in hi) rfl hd (kk b hb p l e R s m args below meth c H locs cells slots Q D tI tZ tG ad A ls hF hP hS hl hX)
theorem e_lenY (hd : decode cc pc = .ok (.arraylength, 1)) (kk : Ev sc wr own cc ret dp (pc + 1) L (.int 8 :: st) M o) : Ev sc wr own cc ret dp pc L (.ref 76 :: st) M o := by
  intro b hb p l e R s m args below meth c H locs cells slots Q D tI tZ tG ad A ls hF hP hS hl hX
  exact va_tlen hF.1 hF.2.1 hF.2.2.2.2.2.2.1.2.2.2.2.1.2 hS rfl hd (kk b hb p l e R s m args below meth c H locs cells slots Q D tI tZ tG ad A ls hF hP hS hl hX)
theorem e_getsT {idx : Nat} (hd : decode cc pc = .ok (.getstatic idx, 3)) (hw : Cond.fieldLink own idx RX9 "TENS" "[I" ∈ lw_good) (kk : Ev sc wr own cc ret dp (pc + 3) L (.ref 75 :: st) M o) : Ev sc wr own cc ret dp pc L st M o := by
  intro b hb p l e R s m args below meth c H locs cells slots Q D tI tZ tG ad A ls hF hP hS hl hX
  exact va_gets hF.1 hF.2.1 hF.2.2.2.2.2.2.1.2.2.2.1.1 hS hF.2.2.2.1 (hF.2.2.2.2.1 _ hw) (fun _ h => h) hd (kk b hb p l e R s m args below meth c H locs cells slots Q D tI tZ tG ad A ls hF hP hS hl hX)
theorem e_getsTN {idx : Nat} {host : String} (hd : decode cc pc = .ok (.getstatic idx, 3)) (hw : Cond.fieldLinkNest own idx RX9 "TENS" "[I" host ∈ lw_nest) (kk : Ev sc wr own cc ret dp (pc + 3) L (.ref 75 :: st) M o) : Ev sc wr own cc ret dp pc L st M o := by
  intro b hb p l e R s m args below meth c H locs cells slots Q D tI tZ tG ad A ls hF hP hS hl hX
  exact va_getsN hF.1 hF.2.1 hF.2.2.2.2.2.2.1.2.2.2.1.1 hS hF.2.2.2.1 (va_Nw.use (nest_on hw) (hF.2.2.2.2.2.2.1.2.2.2.2.2 _ hw)) (fun _ h => h) hd (kk b hb p l e R s m args below meth c H locs cells slots Q D tI tZ tG ad A ls hF hP hS hl hX)
theorem e_getsYN {idx : Nat} {host : String} (hd : decode cc pc = .ok (.getstatic idx, 3)) (hw : Cond.fieldLinkNest own idx RX9 "YEAR_SIGNS" "[I" host ∈ lw_nest) (kk : Ev sc wr own cc ret dp (pc + 3) L (.ref 76 :: st) M o) : Ev sc wr own cc ret dp pc L st M o := by
  intro b hb p l e R s m args below meth c H locs cells slots Q D tI tZ tG ad A ls hF hP hS hl hX
  exact va_getsN hF.1 hF.2.1 hF.2.2.2.2.2.2.1.2.2.2.2.1.1 hS hF.2.2.2.1 (va_Nw.use (nest_on hw) (hF.2.2.2.2.2.2.1.2.2.2.2.2 _ hw)) (fun _ h => h) hd (kk b hb p l e R s m args below meth c H locs cells slots Q D tI tZ tG ad A ls hF hP hS hl hX)
theorem e_iaS' {i : Int32} {n : Nat} {f : Nat → Int32} (hd : decode cc pc = .ok (.iaload, 1)) (hi : inb i n = true) (kk : Ev (some (n, f)) wr own cc ret dp (pc + 1) L (.int (f (ix i)) :: st) M o) : Ev (some (n, f)) wr own cc ret dp pc L (.int i :: .ref 77 :: st) M o := by
  intro b hb p l e R s m args below meth c H locs cells slots Q D tI tZ tG ad A ls hF hP hS hl hX
  obtain ⟨h1, h2, h3⟩ := hF.2.2.2.2.2.2.2 n f rfl
  exact va_sld hF.1 hF.2.1 h1 h2 h3 hS (inb_in hi) hd (kk b hb p l e R s m args below meth c H locs cells slots Q D tI tZ tG ad A ls hF hP hS hl hX)
theorem e_lenS {n : Nat} {f : Nat → Int32} (hd : decode cc pc = .ok (.arraylength, 1)) (kk : Ev (some (n, f)) wr own cc ret dp (pc + 1) L (.int (nI n) :: st) M o) : Ev (some (n, f)) wr own cc ret dp pc L (.ref 77 :: st) M o := by
  intro b hb p l e R s m args below meth c H locs cells slots Q D tI tZ tG ad A ls hF hP hS hl hX
  obtain ⟨h1, h2, h3⟩ := hF.2.2.2.2.2.2.2 n f rfl
  exact va_slen hF.1 hF.2.1 h1 h2 h3 hS hd (kk b hb p l e R s m args below meth c H locs cells slots Q D tI tZ tG ad A ls hF hP hS hl hX)
def MathOK (y : MethodName) (c1 : ByteArray) (ret1 : Option FieldType) : Prop := Cond.static y ∈ lw_good ∧ Cond.initialized "java/lang/Math" ∈ lw_good ∧ Cond.code y c1 2 ret1 ∈ lw_good
theorem catsum (ad : Nat → Nat) (st : List Value) : ((st.map (cv ad)).map fun v => v.category).sum = (st.map fun v => v.category).sum := by
  rw [List.map_map]
  congr 1
  apply List.map_congr_left
  intro v _
  exact cv_cat ad v
theorem e_min {x y : Int32} {idx : Nat} (ok : MathOK Lib.Math.min.name Lib.Math.min.code (some .int)) (hd : decode cc pc = .ok (.invokestatic idx, 3)) (hw : Cond.methodLink own idx Lib.Math.min.name ∈ lw_good) (hs : (st.map fun v => v.category).sum ≤ 8) (hdp : 1 ≤ dp) (kk : Ev sc wr own cc ret dp (pc + 3) L (.int (if y < x then y else x) :: st) M o) : Ev sc wr own cc ret dp pc L (.int y :: .int x :: st) M o := by
  intro b hb p l e R s m args below meth c H locs cells slots Q D tI tZ tG ad A ls hF hP hS hl hX
  have hg := hF.2.2.2.2.1
  obtain ⟨r1, r2, r3, r4⟩ := hF.2.2.2.2.2.1
  exact va_mmin hF.1 hF.2.1 (hF.2.2.1.trans hl.1.symm) hF.2.2.2.1 (hg _ hw) (hg _ ok.1) (hg _ ok.2.1) (hg _ ok.2.2) (by omega) (by rw [catsum]; omega) r3 r4 hd (kk b hb p l e R s m args below meth c H locs cells slots Q D tI tZ tG ad A ls hF hP hS hl hX)
theorem e_max {x y : Int32} {idx : Nat} (ok : MathOK Lib.Math.max.name Lib.Math.max.code (some .int)) (hd : decode cc pc = .ok (.invokestatic idx, 3)) (hw : Cond.methodLink own idx Lib.Math.max.name ∈ lw_good) (hs : (st.map fun v => v.category).sum ≤ 8) (hdp : 1 ≤ dp) (kk : Ev sc wr own cc ret dp (pc + 3) L (.int (if x < y then y else x) :: st) M o) : Ev sc wr own cc ret dp pc L (.int y :: .int x :: st) M o := by
  intro b hb p l e R s m args below meth c H locs cells slots Q D tI tZ tG ad A ls hF hP hS hl hX
  have hg := hF.2.2.2.2.1
  obtain ⟨r1, r2, r3, r4⟩ := hF.2.2.2.2.2.1
  exact va_mmax hF.1 hF.2.1 (hF.2.2.1.trans hl.1.symm) hF.2.2.2.1 (hg _ hw) (hg _ ok.1) (hg _ ok.2.1) (hg _ ok.2.2) (by omega) (by rw [catsum]; omega) r3 r4 hd (kk b hb p l e R s m args below meth c H locs cells slots Q D tI tZ tG ad A ls hF hP hS hl hX)
theorem e_absl {x : Int64} {idx : Nat} (ok : MathOK Lib.MathLoose.abs_long.x Lib.MathLoose.abs_long.code (some .long)) (hd : decode cc pc = .ok (.invokestatic idx, 3)) (hw : Cond.methodLink own idx Lib.MathLoose.abs_long.x ∈ lw_good) (hs : (st.map fun v => v.category).sum ≤ 8) (hdp : 1 ≤ dp) (kk : Ev sc wr own cc ret dp (pc + 3) L (.long (if 0 < x then x else -x) :: st) M o) : Ev sc wr own cc ret dp pc L (.long x :: st) M o := by
  intro b hb p l e R s m args below meth c H locs cells slots Q D tI tZ tG ad A ls hF hP hS hl hX
  have hg := hF.2.2.2.2.1
  obtain ⟨r1, r2, r3, r4⟩ := hF.2.2.2.2.2.1
  exact va_mabs_long hF.1 hF.2.1 (hF.2.2.1.trans hl.1.symm) hF.2.2.2.1 (hg _ hw) (hg _ ok.1) (hg _ ok.2.1) (hg _ ok.2.2) (by omega) (by rw [catsum]; omega) r3 r4 hd (kk b hb p l e R s m args below meth c H locs cells slots Q D tI tZ tG ad A ls hF hP hS hl hX)
def CopyOK : Prop := Cond.native arraycopyName ∈ lw_good ∧ Cond.static arraycopyName ∈ lw_good ∧ Cond.initialized "java/lang/System" ∈ lw_good
theorem e_copy {k0 k1 n0 n1 idx : Nat} {sp q n : Int32} {r0 r1 : List (Option Nat)} (ok : CopyOK) (hd : decode cc pc = .ok (.invokestatic idx, 3)) (hw : Cond.methodLink own idx arraycopyName ∈ lw_good) (hq0 : shl[k0]? = some (0, n0, r0)) (hq1 : shl[k1]? = some (0, n1, r1)) (h1 : ¬ sp < 0) (h2 : ¬ q < 0) (h3 : ¬ n < 0) (h4 : sp.toNatClampNeg + n.toNatClampNeg ≤ n0) (h5 : q.toNatClampNeg + n.toNatClampNeg ≤ n1) (hs : (st.map fun v => v.category).sum ≤ 8) (hdp : 1 ≤ dp) (kk : Ev sc wr own cc ret dp (pc + 3) L st (upA M k1 (va_cpy (M k0) (M k1) sp.toNatClampNeg q.toNatClampNeg n.toNatClampNeg)) o) : Ev sc wr own cc ret dp pc L (.int n :: .int q :: .ref k1 :: .int sp :: .ref k0 :: st) M o := by
  intro b hb p l e R s m args below meth c H locs cells slots Q D tI tZ tG ad A ls hF hP hS hl hX
  have hg := hF.2.2.2.2.1
  have hW := hF.2.2.2.2.2.2.1
  obtain ⟨r1, r2, r3, r4⟩ := hF.2.2.2.2.2.1
  refine va_copyi (ty := .int) hF.1 hF.2.1 (hF.2.2.1.trans hl.1.symm) hF.2.2.2.1 (hg _ hw) (hg _ ok.1) (hg _ ok.2.1) (hg _ ok.2.2) hW.1 hP (cw_D hW.2.1 hW.2.2.1 M) hS k0 k1 0 0 (cw_get hq0) (cw_get hq1) rfl rfl rfl h1 h2 h3 h4 h5 (fun _ _ => rfl) (by omega) (by rw [catsum]; exact Nat.le_trans (Nat.add_le_add hs (Nat.le_of_ble_eq_true (m := 26) rfl)) (by omega)) hd (fun H1 locs1 hP1 _ hS1 => ?_)
  have e1 := cw_set (tI := tI) (tZ := tZ) (tG := tG) (ad := ad) (M := M) hq1 (va_cpy (M k0) (M k1) sp.toNatClampNeg q.toNatClampNeg n.toNatClampNeg)
  exact kk b hb p l e R s m args below meth c H1 locs1 cells slots Q D tI tZ tG ad A ls hF (e1 ▸ hP1) hS1 hl hX
end Heap
end
section
def Ca {β : Type} (sc : Option (Nat × (Nat → Int32))) (wr1 : β → Option Value × Mem) (own : String) (cc : ByteArray) (dp pc : Nat) (L : List (Option Value)) (st rest : List Value) (M : Mem) (o1 : Option β) : Prop :=
  ∀ b, o1 = some b → ∀ (p : Program) (l : Launch) (e : Env) (R : Room) (s : State) (m : MethodId) (args : Array Value) (below : List Frame) (meth : Method) (c : Code) (H : Heap) (locs : List Loc) (cells slots : Nat) (D : va_G) (tI tZ tG : ClassId) (ad : Nat → Nat) (A : Nat → Prop) (ls : Array Slot),
    Fx sc own cc dp L.length p R s m args c cells slots D tI tZ tG ad A → va_P D vwCl (cw tI tZ tG ad M) H → va_S A s.heap H locs → lh ad ls L →
    va_Run p l e R s m args below meth c H locs cells slots 0 0 (F0 m pc ls (st.map (cv ad))) (rest.map (cv ad)) (Qe D tI tZ tG ad (wr1 b) #[]) (Aw ad)
theorem opt_map_list {γ δ : Type} (f : γ → δ) (o : Option γ) (r : List γ) : (o.map f).toList ++ r.map f = (o.toList ++ r).map f := by cases o <;> rfl
section Calls
variable {α β : Type} {sc : Option (Nat × (Nat → Int32))} {wr : α → Option Value × Mem} {wr1 : β → Option Value × Mem} {own : String} {cc : ByteArray} {ret : Option FieldType} {dp pc : Nat} {L : List (Option Value)} {st rest : List Value} {M : Mem} {o1 : Option β}
theorem ev_call {k : β → Option α} (hc : Ca sc wr1 own cc dp pc L st rest M o1) (hk : ∀ b, o1 = some b → Ev sc wr own cc ret dp (pc + 3) L ((wr1 b).1.toList ++ rest) (wr1 b).2 (k b)) : Ev sc wr own cc ret dp pc L st M (o1.bind k) := by
  intro b hb p l e R s m args below meth c H locs cells slots Q D tI tZ tG ad A ls hF hP hS hl hX
  obtain ⟨x, hx1, hx2⟩ := Option.bind_eq_some_iff.mp hb
  have hA := hF.2.2.2.2.2.2.1.2.2.1
  have hAw : ∀ q, Aw ad q → A q := fun q ⟨k, hk, e⟩ => e ▸ hA k hk
  intro T hT X
  obtain ⟨v, st₀, t, T', L', h0, X', hL, e1, e2, ⟨hv, hb1, hz, hk1⟩, stp⟩ := hc x hx1 p l e R s m args below meth c H locs cells slots D tI tZ tG ad A ls hF hP hS hl T hT X
  rw [h0] at hz hk1
  have hv2 : v = (wr1 x).1.map (cv ad) := by injection hv
  subst hv2
  have hS' : va_S A s.heap T'.heap (locs ++ L') := ⟨Nat.le_trans hS.1 (by rw [e1]; exact hz), fun q h1 h2 => by rw [e1, hk1 q (Nat.lt_of_lt_of_le h1 hS.1) (fun z => h2 (hAw q z))]; exact hS.2.1 q h1 h2, fun q hq => by
      rcases List.mem_append.mp hq with h | h
      · exact hS.2.2 q h
      · exact hAw _ (hL q h)⟩
  obtain ⟨t2, a1, b1⟩ := hk x hx1 b hx2 p l e R s m args below meth c T'.heap (locs ++ L') cells slots Q D tI tZ tG ad A ls hF (by rw [e1]; exact hb1) hS' hl hX T' rfl X'
  refine ⟨t2, stp t2 ?_, b1⟩
  rw [← opt_map_list] at a1
  exact a1
/-- a call that answers, whatever may be -/
theorem ev_callT {b0 : β} {o : Option α} (hc : Ca sc wr1 own cc dp pc L st rest M (some b0)) (hk : Ev sc wr own cc ret dp (pc + 3) L ((wr1 b0).1.toList ++ rest) (wr1 b0).2 o) : Ev sc wr own cc ret dp pc L st M o := by
  have h := ev_call (wr := wr) (ret := ret) (k := fun _ => o) hc (fun b hb => by cases hb; exact hk)
  exact h
def MS (y : MethodName) (c1 : ByteArray) (nL : Nat) (ret1 : Option FieldType) (n : Nat) : Prop := Cond.static y ∈ lw_good ∧ Cond.initialized y.cls ∈ lw_good ∧ Cond.code y c1 nL ret1 ∈ lw_good ∧ (y.cls ≠ "java/lang/invoke/MethodHandle" ∧ y.cls ≠ "java/lang/invoke/VarHandle" ∧ (parseMethodDescriptor y.desc).map (fun d => d.parameters.length) = some n) ∧ nL ≤ 15
def MV (y : MethodName) (c1 : ByteArray) (nL : Nat) (ret1 : Option FieldType) (n : Nat) : Prop := Cond.instanceMethod y ∈ lw_good ∧ Cond.selects y.cls y y ∈ lw_good ∧ Cond.initialized y.cls ∈ lw_good ∧ Cond.code y c1 nL ret1 ∈ lw_good ∧ (y.cls ≠ "java/lang/invoke/MethodHandle" ∧ y.cls ≠ "java/lang/invoke/VarHandle" ∧ (parseMethodDescriptor y.desc).map (fun d => d.parameters.length) = some n) ∧ nL ≤ 15
theorem pc_blind (D : va_G) (tI tZ tG : ClassId) (ad : Nat → Nat) (as : List Value) (M : Mem) : FrameBlind (PcW D tI tZ tG ad as M) := fun a U g mk ⟨q0, qW, qP⟩ => ⟨q0, qW.calling g mk a, qP⟩
theorem pc_at {D : va_G} {tI tZ tG : ClassId} {ad : Nat → Nat} {A : Nat → Prop} {as : List Value} {M : Mem} {s : State} {H : Heap} {locs : List Loc} (hW : Wd D tI tZ tG ad A s) (hP : va_P D vwCl (cw tI tZ tG ad M) H) (hS : va_S A s.heap H locs) (U : State) (hU : U.heap = H) (hw : s.WarmedH U.vm) : PcW D tI tZ tG ad as M (as.map (cv ad)).toArray U := ⟨rfl, Wd.warm hw (by rw [hU]; exact hS) hW, by rw [hU]; exact hP⟩
theorem good_all {ws : List Cond} (h : ∀ w ∈ ws, w ∈ lw_good) : GoodIn lw_good ws := fun w hw => ⟨h w hw, good_of_word (List.mem_filter.mp (h w hw)).2⟩
theorem ca_S {y : MethodName} {c1 : ByteArray} {nL1 dp1 idx n : Nat} {ret1 : Option FieldType} {as : List Value} (ms : MS y c1 nL1 ret1 n) (hsp : SpO wr1 y c1 nL1 ret1 dp1 as M o1) (hd : decode cc pc = .ok (.invokestatic idx, 3)) (hw : Cond.methodLink own idx y ∈ lw_good) (hn : as.length = n) (hst : as.reverse ++ rest = st) (hr : (rest.map fun v => v.category).sum ≤ 8) (hdp : dp1 + 1 ≤ dp) : Ca sc wr1 own cc dp pc L st rest M o1 := by
  intro b hb p l e R s m args below meth c H locs cells slots D tI tZ tG ad A ls hF hP hS hl
  obtain ⟨r1, r2, r3, r4⟩ := hF.2.2.2.2.2.1
  obtain ⟨m1, m2, m3, m4, m5⟩ := ms
  have hR : (rmD dp1).frames + 1 ≤ R.frames ∧ 8 + (nL1 + 11) + (rmD dp1).locals ≤ R.locals := by
    constructor
    · show dp1 + 1 ≤ R.frames
      omega
    · show 8 + (nL1 + 11) + 34 * dp1 ≤ R.locals
      omega
  have hT : GoodIn lw_good (va_wsS own idx y (Cond.code y c1 nL1 ret1 :: lw_good)) := good_all (by
    intro w h
    rcases List.mem_append.mp h with h | h
    · rcases List.mem_cons.mp h with rfl | h
      · exact hw
      · rcases List.mem_cons.mp h with rfl | h
        · exact m1
        · rw [List.mem_singleton] at h
          subst h
          exact m2
    · rcases List.mem_cons.mp h with rfl | h
      · exact m3
      · exact h)
  refine va_runS (As := as.map (cv ad)) (Qc := Qe D tI tZ tG ad (wr1 b)) (n := n) ⟨hF.1, hF.2.1, hF.2.2.1, hF.2.2.2.1, hF.2.2.2.2.1⟩ (hsp b hb l D tI tZ tG ad) (va_cwS n hF.2.2.2.2.1 hT rfl rfl rfl m4 hR) ⟨pc_blind D tI tZ tG ad as M, pc_at hF.2.2.2.2.2.2.1 hP hS⟩ rfl (by rw [List.length_map]; exact hn) hl.1 ?_ (lv_room (by rw [catsum]; exact hr)) hd ⟨r3, r4⟩
  show st.map (cv ad) = (as.map (cv ad)).reverse ++ rest.map (cv ad)
  rw [← hst, List.map_append, List.map_reverse]
theorem ca_SN {y : MethodName} {c1 : ByteArray} {nL1 dp1 idx n : Nat} {host : String} {ret1 : Option FieldType} {as : List Value} (ms : MS y c1 nL1 ret1 n) (hsp : SpO wr1 y c1 nL1 ret1 dp1 as M o1) (hd : decode cc pc = .ok (.invokestatic idx, 3)) (hw : Cond.methodLinkNest own idx y host ∈ lw_nest) (hn : as.length = n) (hst : as.reverse ++ rest = st) (hr : (rest.map fun v => v.category).sum ≤ 8) (hdp : dp1 + 1 ≤ dp) : Ca sc wr1 own cc dp pc L st rest M o1 := by
  intro b hb p l e R s m args below meth c H locs cells slots D tI tZ tG ad A ls hF hP hS hl
  obtain ⟨r1, r2, r3, r4⟩ := hF.2.2.2.2.2.1
  obtain ⟨m1, m2, m3, m4, m5⟩ := ms
  have hR : (rmD dp1).frames + 1 ≤ R.frames ∧ 8 + (nL1 + 11) + (rmD dp1).locals ≤ R.locals := by
    constructor
    · show dp1 + 1 ≤ R.frames
      omega
    · show 8 + (nL1 + 11) + 34 * dp1 ≤ R.locals
      omega
  have hT : GoodIn lw_good (Cond.code y c1 nL1 ret1 :: lw_good) := good_in0 _ m3
  have hN : va_Nw (.methodLinkNest own idx y host) s := hF.2.2.2.2.2.2.1.2.2.2.2.2 _ hw
  refine va_runSN (As := as.map (cv ad)) (Qc := Qe D tI tZ tG ad (wr1 b)) (n := n) (host := host) ⟨hF.1, hF.2.1, hF.2.2.1, hF.2.2.2.1, hF.2.2.2.2.1⟩ (hsp b hb l D tI tZ tG ad) ⟨va_cnB n hF.2.2.2.2.1 hT rfl rfl rfl hN (hF.2.2.2.2.1 _ m2) m4 hR, hF.2.2.2.2.1 _ m1, trivial⟩ ⟨pc_blind D tI tZ tG ad as M, pc_at hF.2.2.2.2.2.2.1 hP hS⟩ rfl (by rw [List.length_map]; exact hn) hl.1 ?_ (lv_room (by rw [catsum]; exact hr)) hd ⟨r3, r4⟩
  show st.map (cv ad) = (as.map (cv ad)).reverse ++ rest.map (cv ad)
  rw [← hst, List.map_append, List.map_reverse]
theorem ca_V {y : MethodName} {c1 : ByteArray} {nL1 dp1 idx n k ci n0 N : Nat} {T : u_T} {rs : List (Option Nat)} {ret1 : Option FieldType} {as : List Value} (mv : MV y c1 nL1 ret1 n) (hsp : SpO wr1 y c1 nL1 ret1 dp1 (.ref k :: as) M o1) (hd : decode cc pc = .ok (.invokevirtual idx, 3)) (hw : Cond.methodLink own idx y ∈ lw_good) (hq : shl[k]? = some (ci + 3, n0, rs)) (hc : vwCl[ci]? = some (y.cls, T, N)) (hn : as.length = n) (hst : as.reverse ++ .ref k :: rest = st) (hr : (rest.map fun v => v.category).sum ≤ 8) (hdp : dp1 + 1 ≤ dp) : Ca sc wr1 own cc dp pc L st rest M o1 := by
  intro b hb p l e R s m args below meth c H locs cells slots D tI tZ tG ad A ls hF hP hS hl
  obtain ⟨r1, r2, r3, r4⟩ := hF.2.2.2.2.2.1
  obtain ⟨m1, m2, m3, m4, m5, m6⟩ := mv
  have hR : (rmD dp1).frames + 1 ≤ R.frames ∧ 8 + (nL1 + 11) + (rmD dp1).locals ≤ R.locals := by
    constructor
    · show dp1 + 1 ≤ R.frames
      omega
    · show 8 + (nL1 + 11) + 34 * dp1 ≤ R.locals
      omega
  have hT : GoodIn lw_good (wsV own idx y.cls y (Cond.code y c1 nL1 ret1 :: lw_good)) := good_all (by
    intro w h
    rcases List.mem_append.mp h with h | h
    · rcases List.mem_cons.mp h with rfl | h
      · exact hw
      · rcases List.mem_cons.mp h with rfl | h
        · exact m1
        · rcases List.mem_cons.mp h with rfl | h
          · exact m2
          · rw [List.mem_singleton] at h
            subst h
            exact m3
    · rcases List.mem_cons.mp h with rfl | h
      · exact m4
      · exact h)
  refine va_runV (C := y.cls) (b := ad k) (As := as.map (cv ad)) (Qc := Qe D tI tZ tG ad (wr1 b)) (n := n) ⟨hF.1, hF.2.1, hF.2.2.1, hF.2.2.2.1, hF.2.2.2.2.1⟩ (hsp b hb l D tI tZ tG ad) (cwV n hF.2.2.2.2.1 hT rfl rfl rfl ⟨rfl, m5⟩ hR) ⟨pc_blind D tI tZ tG ad _ M, va_recv hF.2.2.2.2.2.2.1.1 hP hc (cw_get hq), fun U hU hw => pc_at (as := .ref k :: as) hF.2.2.2.2.2.2.1 hP hS U hU hw⟩ rfl (by rw [List.length_map]; exact hn) hl.1 ?_ (lv_room (by rw [catsum]; exact hr)) hd ⟨r3, r4⟩
  show st.map (cv ad) = (as.map (cv ad)).reverse ++ .ref (ad k) :: rest.map (cv ad)
  rw [← hst, List.map_append, List.map_reverse]
  rfl
end Calls
/-- the locals with which a method begins -/
def ent (as : List Value) (n : Nat) : List (Option Value) := (as.flatMap fun v => if v.category = 2 then [some v, none] else [some v]) ++ List.replicate (n - (lg_sl as).length) none
theorem ent_mem (ad : Nat → Nat) : ∀ (as : List Value) (i0 j : Nat) (v : Value), (as.flatMap fun v => if v.category = 2 then [some v, none] else [some v])[j]? = some (some v) → (i0 + j, cv ad v) ∈ lv_args i0 (as.map (cv ad))
  | [], i0, j, v, h => by simp at h
  | a :: as, i0, j, v, h => by
    rw [List.map_cons]
    unfold lv_args
    rw [List.flatMap_cons] at h
    by_cases hc : a.category = 2
    · rw [if_pos hc] at h
      rw [if_pos ((cv_cat ad a).trans hc)]
      match j, h with
      | 0, h =>
        have h2 : some (some a) = some (some v) := h
        cases h2
        exact List.mem_cons_self
      | 1, h =>
        have h2 : (some none : Option (Option Value)) = some (some v) := h
        cases h2
      | j + 2, h =>
        have h2 : (as.flatMap fun v => if v.category = 2 then [some v, none] else [some v])[j]? = some (some v) := h
        have h3 := ent_mem ad as (i0 + 2) j v h2
        rw [show i0 + 2 + j = i0 + (j + 2) by omega] at h3
        exact List.mem_cons_of_mem _ h3
    · rw [if_neg hc] at h
      rw [if_neg (fun h => hc ((cv_cat ad a).symm.trans h))]
      match j, h with
      | 0, h =>
        have h2 : some (some a) = some (some v) := h
        cases h2
        exact List.mem_cons_self
      | j + 1, h =>
        have h2 : (as.flatMap fun v => if v.category = 2 then [some v, none] else [some v])[j]? = some (some v) := h
        have h3 := ent_mem ad as (i0 + 1) j v h2
        rw [show i0 + 1 + j = i0 + (j + 1) by omega] at h3
        exact List.mem_cons_of_mem _ h3
theorem lg_len (ad : Nat → Nat) : ∀ as : List Value, (lg_sl (as.map (cv ad))).length = (lg_sl as).length
  | [] => rfl
  | a :: as => by
    have ih := lg_len ad as
    unfold lg_sl at ih ⊢
    rw [List.map_cons, List.flatMap_cons, List.flatMap_cons, List.length_append, List.length_append, ih, cv_cat]
    split <;> rfl
theorem ent_len0 : ∀ as : List Value, (as.flatMap fun v => if v.category = 2 then [some v, none] else [some v]).length = (lg_sl as).length
  | [] => rfl
  | a :: as => by
    have ih := ent_len0 as
    unfold lg_sl at ih ⊢
    rw [List.flatMap_cons, List.flatMap_cons, List.length_append, List.length_append, ih]
    split <;> rfl
theorem ent_len (as : List Value) {n : Nat} (h : (lg_sl as).length ≤ n) : (ent as n).length = n := by
  unfold ent
  rw [List.length_append, List.length_replicate, ent_len0]
  omega
theorem ent_lh (ad : Nat → Nat) (as : List Value) {n : Nat} (h : (lg_sl as).length ≤ n) : lh ad ((lg_sl (as.map (cv ad)) ++ List.replicate (n - (lg_sl (as.map (cv ad))).length) Slot.unset).toArray) (ent as n) := by
  have h1 := lv_entry (as.map (cv ad)) (n := n) (by rw [lg_len]; exact h)
  refine ⟨h1.1.trans (ent_len as h).symm, h1.2.1, fun i v hi => ?_⟩
  unfold ent at hi
  by_cases hl : i < (as.flatMap fun v => if v.category = 2 then [some v, none] else [some v]).length
  · rw [List.getElem?_append_left hl] at hi
    have h2 := ent_mem ad as 0 i v hi
    rw [Nat.zero_add] at h2
    exact h1.2.2 (i, cv ad v) h2
  · rw [List.getElem?_append_right (by omega)] at hi
    have := List.eq_of_mem_replicate (List.mem_of_getElem? hi)
    cases this
theorem sp_of {α : Type} {wr : α → Option Value × Mem} {y : MethodName} {own : String} {c1 : ByteArray} {nL dp : Nat} {ret : Option FieldType} {as : List Value} {L : List (Option Value)} {M : Mem} {o : Option α} (hy : y.cls = own) (hpl : plainName y.cls = true) (hlen : (lg_sl as).length ≤ nL) (hL : ent as nL = L) (h : Ev none wr own c1 ret dp 0 L [] M o) : SpO wr y c1 nL ret dp as M o := by
  subst hL
  intro b hb l D tI tZ tG ad
  refine Met.ofW (cc := c1) (maxL := nL) (ret := ret) hpl rfl ?_
  intro p e s m args below meth c s₁ B hml hv
  obtain ⟨rfl, hW, hP⟩ := hv
  have hts := atoms_spec (ws := Cond.code y c1 nL ret :: lw_good) B.pre
  have hown : s.vm.findClass own = some m.cls := hy ▸ findClass_of_methodNamed B.named
  have hlocks := B.notSynchronized
  have hr := B.returns
  rw [lg_entry_eq]
  refine h b hb p l e _ s m _ below meth c s.heap [] 0 0 _ D tI tZ tG ad (Aw ad) _ ⟨B.exec, B.bytes, ?_, hown, fun w hw => hts w (List.mem_cons_of_mem _ hw), ⟨Nat.le_refl _, Nat.le_refl _, Nat.zero_le _, Nat.zero_le _⟩, hW, fun n f h => by cases h⟩ hP va_S.rf (ent_lh ad as hlen) ?_
  · rw [ent_len as hlen]; exact hml
  · intro H' locs' ls' pc' hok hP' hS' hd
    have hq : ∀ t : State, t.heap = H' → Qe D tI tZ tG ad (wr b) (as.map (cv ad)).toArray s (.returned ((wr b).1.map (cv ad))) t := fun t ht => ⟨rfl, by rw [ht]; exact hP', hS'.F ht⟩
    rcases hok with ⟨h1, h2⟩ | ⟨v, h1, h2⟩ | ⟨ty, v, h1, h2, h3⟩
    · rw [h2] at hq hd ⊢
      exact W.vret B.exec B.bytes (hr.trans h1) (fun t ht _ => hq t ht) hS'.2.2 hd
    · rw [h2] at hq hd ⊢
      exact W.lret B.exec B.bytes (hr.trans h1) (fun t ht _ => hq t ht) hS'.2.2 hd
    · rw [h2] at hq hd ⊢
      exact W.zret B.exec B.bytes (hr.trans h1) h3 (fun t ht _ => hq t ht) hS'.2.2 hd
-- how what is answered is told
abbrev wI : Int32 × Mem → Option Value × Mem := fun q => (some (.int q.1), q.2)
abbrev wR (M : Mem) : Int32 → Option Value × Mem := fun r => (some (.int r), M)
abbrev wL (M : Mem) : Int64 → Option Value × Mem := fun r => (some (.long r), M)
abbrev wV : Mem → Option Value × Mem := fun M => (none, M)
def dec_ok (c1 : ByteArray) (tb : List (Nat × Instr × Nat)) : Bool := tb.all (fun q => decide (decode c1 q.1 = .ok q.2))
theorem dt {c1 : ByteArray} {tb : List (Nat × Instr × Nat)} (h : dec_ok c1 tb = true) (i : Nat) {pc n : Nat} {ins : Instr} (hi : tb[i]? = some (pc, ins, n)) : decode c1 pc = .ok (ins, n) := by
  have h1 := List.all_eq_true.mp h _ (List.mem_of_getElem? hi)
  exact of_decide_eq_true h1
end
section
theorem zz_a : SpO wV ⟨"a","b","c"⟩ cX0_init 1 none 0 [] (fun _ _ => 0) (none) := fun b hb => by cases hb
theorem zz_b : goodWord (Cond.methodLinkNest "a" 1 ⟨"a","b","c"⟩ "d") = false := by decide
theorem zz_c : lw_tbl.length = 1 := by decide +kernel
end
