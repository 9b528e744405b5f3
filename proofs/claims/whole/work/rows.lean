section
-- ===== PART A: goes FIRST, ahead of the names: the tables' words, and 'selects' of the private methods out of them =====
/-- a private method of a class that the tables say can be made, by its rows of tables_1 -/
def lw_okq (q : MethodName × Nat) : Prop := (q.1.cls ≠ "java/lang/invoke/MethodHandle" ∧ q.1.cls ≠ "java/lang/invoke/VarHandle") ∧ Cond.instantiable q.1.cls q.2 ∈ tables_1 ∧ Cond.privateMethod q.1 ∈ tables_1 ∧ Cond.instanceMethod q.1 ∈ tables_1
theorem lw_p0 : lw_okq (⟨"DoubtCatcher", "tryPad", "()I"⟩, 10) := ⟨⟨by decide +kernel, by decide +kernel⟩, List.mem_of_getElem? (i := 17) (by decide +kernel), List.mem_of_getElem? (i := 346) (by decide +kernel), List.mem_of_getElem? (i := 347) (by decide +kernel)⟩
theorem lw_p1 : lw_okq (⟨"DoubtCatcher$Town", "passWeek", "()V"⟩, 9) := ⟨⟨by decide +kernel, by decide +kernel⟩, List.mem_of_getElem? (i := 25) (by decide +kernel), List.mem_of_getElem? (i := 392) (by decide +kernel), List.mem_of_getElem? (i := 393) (by decide +kernel)⟩
theorem lw_p2 : lw_okq (⟨"DoubtCatcher$Town", "wander", "()V"⟩, 9) := ⟨⟨by decide +kernel, by decide +kernel⟩, List.mem_of_getElem? (i := 25) (by decide +kernel), List.mem_of_getElem? (i := 406) (by decide +kernel), List.mem_of_getElem? (i := 407) (by decide +kernel)⟩
theorem lw_p3 : lw_okq (⟨"DoubtCatcher$Town", "quietestOf", "(I)I"⟩, 9) := ⟨⟨by decide +kernel, by decide +kernel⟩, List.mem_of_getElem? (i := 25) (by decide +kernel), List.mem_of_getElem? (i := 410) (by decide +kernel), List.mem_of_getElem? (i := 411) (by decide +kernel)⟩
theorem lw_p4 : lw_okq (⟨"DoubtCatcher$Telling", "noteRid", "(II)V"⟩, 5) := ⟨⟨by decide +kernel, by decide +kernel⟩, List.mem_of_getElem? (i := 103) (by decide +kernel), List.mem_of_getElem? (i := 415) (by decide +kernel), List.mem_of_getElem? (i := 416) (by decide +kernel)⟩
theorem lw_p5 : lw_okq (⟨"DoubtCatcher$Hearing", "compare", "(III)V"⟩, 4) := ⟨⟨by decide +kernel, by decide +kernel⟩, List.mem_of_getElem? (i := 177) (by decide +kernel), List.mem_of_getElem? (i := 469) (by decide +kernel), List.mem_of_getElem? (i := 470) (by decide +kernel)⟩
theorem lw_p6 : lw_okq (⟨"DoubtCatcher$Hearing", "offer", "(III)V"⟩, 4) := ⟨⟨by decide +kernel, by decide +kernel⟩, List.mem_of_getElem? (i := 177) (by decide +kernel), List.mem_of_getElem? (i := 474) (by decide +kernel), List.mem_of_getElem? (i := 475) (by decide +kernel)⟩
theorem lw_p7 : lw_okq (⟨"DoubtCatcher$Asking", "gather", "(LDoubtCatcher$Sights;)V"⟩, 6) := ⟨⟨by decide +kernel, by decide +kernel⟩, List.mem_of_getElem? (i := 150) (by decide +kernel), List.mem_of_getElem? (i := 514) (by decide +kernel), List.mem_of_getElem? (i := 515) (by decide +kernel)⟩
theorem lw_p8 : lw_okq (⟨"DoubtCatcher$Asking", "mostAlike", "()I"⟩, 6) := ⟨⟨by decide +kernel, by decide +kernel⟩, List.mem_of_getElem? (i := 150) (by decide +kernel), List.mem_of_getElem? (i := 519) (by decide +kernel), List.mem_of_getElem? (i := 520) (by decide +kernel)⟩
theorem lw_p9 : lw_okq (⟨"DoubtCatcher$Asking", "breedAll", "()V"⟩, 6) := ⟨⟨by decide +kernel, by decide +kernel⟩, List.mem_of_getElem? (i := 150) (by decide +kernel), List.mem_of_getElem? (i := 526) (by decide +kernel), List.mem_of_getElem? (i := 527) (by decide +kernel)⟩
theorem lw_p10 : lw_okq (⟨"DoubtCatcher$Hunt", "shutIn", "()V"⟩, 5) := ⟨⟨by decide +kernel, by decide +kernel⟩, List.mem_of_getElem? (i := 198) (by decide +kernel), List.mem_of_getElem? (i := 539) (by decide +kernel), List.mem_of_getElem? (i := 540) (by decide +kernel)⟩
theorem lw_p11 : lw_okq (⟨"DoubtCatcher$Hunt", "firstGoing", "(II)I"⟩, 5) := ⟨⟨by decide +kernel, by decide +kernel⟩, List.mem_of_getElem? (i := 198) (by decide +kernel), List.mem_of_getElem? (i := 543) (by decide +kernel), List.mem_of_getElem? (i := 544) (by decide +kernel)⟩
theorem lw_p12 : lw_okq (⟨"DoubtCatcher$Hunt", "widen", "()Z"⟩, 5) := ⟨⟨by decide +kernel, by decide +kernel⟩, List.mem_of_getElem? (i := 198) (by decide +kernel), List.mem_of_getElem? (i := 547) (by decide +kernel), List.mem_of_getElem? (i := 548) (by decide +kernel)⟩
theorem lw_p13 : lw_okq (⟨"DoubtCatcherModel", "bore", "(IIZ)V"⟩, 34) := ⟨⟨by decide +kernel, by decide +kernel⟩, List.mem_of_getElem? (i := 598) (by decide +kernel), List.mem_of_getElem? (i := 725) (by decide +kernel), List.mem_of_getElem? (i := 726) (by decide +kernel)⟩
theorem lw_p14 : lw_okq (⟨"DoubtCatcherModel", "begin", "(I)I"⟩, 34) := ⟨⟨by decide +kernel, by decide +kernel⟩, List.mem_of_getElem? (i := 598) (by decide +kernel), List.mem_of_getElem? (i := 753) (by decide +kernel), List.mem_of_getElem? (i := 754) (by decide +kernel)⟩
theorem lw_p15 : lw_okq (⟨"DoubtCatcherModel", "close", "(I)I"⟩, 34) := ⟨⟨by decide +kernel, by decide +kernel⟩, List.mem_of_getElem? (i := 598) (by decide +kernel), List.mem_of_getElem? (i := 762) (by decide +kernel), List.mem_of_getElem? (i := 763) (by decide +kernel)⟩
def lw_privs_1 : List (MethodName × Nat) := [(⟨"DoubtCatcher", "tryPad", "()I"⟩, 10), (⟨"DoubtCatcher$Town", "passWeek", "()V"⟩, 9), (⟨"DoubtCatcher$Town", "wander", "()V"⟩, 9), (⟨"DoubtCatcher$Town", "quietestOf", "(I)I"⟩, 9), (⟨"DoubtCatcher$Telling", "noteRid", "(II)V"⟩, 5), (⟨"DoubtCatcher$Hearing", "compare", "(III)V"⟩, 4), (⟨"DoubtCatcher$Hearing", "offer", "(III)V"⟩, 4), (⟨"DoubtCatcher$Asking", "gather", "(LDoubtCatcher$Sights;)V"⟩, 6), (⟨"DoubtCatcher$Asking", "mostAlike", "()I"⟩, 6), (⟨"DoubtCatcher$Asking", "breedAll", "()V"⟩, 6), (⟨"DoubtCatcher$Hunt", "shutIn", "()V"⟩, 5), (⟨"DoubtCatcher$Hunt", "firstGoing", "(II)I"⟩, 5), (⟨"DoubtCatcher$Hunt", "widen", "()Z"⟩, 5), (⟨"DoubtCatcherModel", "bore", "(IIZ)V"⟩, 34), (⟨"DoubtCatcherModel", "begin", "(I)I"⟩, 34), (⟨"DoubtCatcherModel", "close", "(I)I"⟩, 34)]
theorem lw_r1 : ∀ q ∈ lw_privs_1, lw_okq q := List.forall_mem_cons.mpr ⟨lw_p0, List.forall_mem_cons.mpr ⟨lw_p1, List.forall_mem_cons.mpr ⟨lw_p2, List.forall_mem_cons.mpr ⟨lw_p3, List.forall_mem_cons.mpr ⟨lw_p4, List.forall_mem_cons.mpr ⟨lw_p5, List.forall_mem_cons.mpr ⟨lw_p6, List.forall_mem_cons.mpr ⟨lw_p7, List.forall_mem_cons.mpr ⟨lw_p8, List.forall_mem_cons.mpr ⟨lw_p9, List.forall_mem_cons.mpr ⟨lw_p10, List.forall_mem_cons.mpr ⟨lw_p11, List.forall_mem_cons.mpr ⟨lw_p12, List.forall_mem_cons.mpr ⟨lw_p13, List.forall_mem_cons.mpr ⟨lw_p14, List.forall_mem_cons.mpr ⟨lw_p15, fun _ h => absurd h List.not_mem_nil⟩⟩⟩⟩⟩⟩⟩⟩⟩⟩⟩⟩⟩⟩⟩⟩
theorem lw_p16 : lw_okq (⟨"DoubtCatcherModel", "deed", "(I)I"⟩, 34) := ⟨⟨by decide +kernel, by decide +kernel⟩, List.mem_of_getElem? (i := 598) (by decide +kernel), List.mem_of_getElem? (i := 766) (by decide +kernel), List.mem_of_getElem? (i := 767) (by decide +kernel)⟩
theorem lw_p17 : lw_okq (⟨"DoubtCatcherModel", "end", "(II)I"⟩, 34) := ⟨⟨by decide +kernel, by decide +kernel⟩, List.mem_of_getElem? (i := 598) (by decide +kernel), List.mem_of_getElem? (i := 770) (by decide +kernel), List.mem_of_getElem? (i := 771) (by decide +kernel)⟩
theorem lw_p18 : lw_okq (⟨"DoubtCatcherModel", "refusal", "()I"⟩, 34) := ⟨⟨by decide +kernel, by decide +kernel⟩, List.mem_of_getElem? (i := 598) (by decide +kernel), List.mem_of_getElem? (i := 779) (by decide +kernel), List.mem_of_getElem? (i := 780) (by decide +kernel)⟩
theorem lw_p19 : lw_okq (⟨"DoubtCatcherModel", "keepNow", "()V"⟩, 34) := ⟨⟨by decide +kernel, by decide +kernel⟩, List.mem_of_getElem? (i := 598) (by decide +kernel), List.mem_of_getElem? (i := 783) (by decide +kernel), List.mem_of_getElem? (i := 784) (by decide +kernel)⟩
theorem lw_p20 : lw_okq (⟨"DoubtCatcherModel", "goWeeks", "()V"⟩, 34) := ⟨⟨by decide +kernel, by decide +kernel⟩, List.mem_of_getElem? (i := 598) (by decide +kernel), List.mem_of_getElem? (i := 788) (by decide +kernel), List.mem_of_getElem? (i := 789) (by decide +kernel)⟩
theorem lw_p21 : lw_okq (⟨"DoubtCatcherModel", "whyNot", "(III)I"⟩, 34) := ⟨⟨by decide +kernel, by decide +kernel⟩, List.mem_of_getElem? (i := 598) (by decide +kernel), List.mem_of_getElem? (i := 792) (by decide +kernel), List.mem_of_getElem? (i := 793) (by decide +kernel)⟩
theorem lw_p22 : lw_okq (⟨"DoubtCatcherModel", "goOne", "(I)V"⟩, 34) := ⟨⟨by decide +kernel, by decide +kernel⟩, List.mem_of_getElem? (i := 598) (by decide +kernel), List.mem_of_getElem? (i := 796) (by decide +kernel), List.mem_of_getElem? (i := 797) (by decide +kernel)⟩
theorem lw_p23 : lw_okq (⟨"DoubtCatcherModel", "clear", "()I"⟩, 34) := ⟨⟨by decide +kernel, by decide +kernel⟩, List.mem_of_getElem? (i := 598) (by decide +kernel), List.mem_of_getElem? (i := 800) (by decide +kernel), List.mem_of_getElem? (i := 801) (by decide +kernel)⟩
theorem lw_p24 : lw_okq (⟨"DoubtCatcherModel", "happen", "(III)V"⟩, 34) := ⟨⟨by decide +kernel, by decide +kernel⟩, List.mem_of_getElem? (i := 598) (by decide +kernel), List.mem_of_getElem? (i := 804) (by decide +kernel), List.mem_of_getElem? (i := 805) (by decide +kernel)⟩
theorem lw_p25 : lw_okq (⟨"DoubtCatcherModel", "breed", "()V"⟩, 34) := ⟨⟨by decide +kernel, by decide +kernel⟩, List.mem_of_getElem? (i := 598) (by decide +kernel), List.mem_of_getElem? (i := 814) (by decide +kernel), List.mem_of_getElem? (i := 815) (by decide +kernel)⟩
theorem lw_p26 : lw_okq (⟨"DoubtCatcherModel", "go", "()V"⟩, 34) := ⟨⟨by decide +kernel, by decide +kernel⟩, List.mem_of_getElem? (i := 598) (by decide +kernel), List.mem_of_getElem? (i := 821) (by decide +kernel), List.mem_of_getElem? (i := 822) (by decide +kernel)⟩
theorem lw_p27 : lw_okq (⟨"DoubtCatcherModel", "goal", "(I)I"⟩, 34) := ⟨⟨by decide +kernel, by decide +kernel⟩, List.mem_of_getElem? (i := 598) (by decide +kernel), List.mem_of_getElem? (i := 825) (by decide +kernel), List.mem_of_getElem? (i := 826) (by decide +kernel)⟩
theorem lw_p28 : lw_okq (⟨"DoubtCatcherModel", "back", "(I)I"⟩, 34) := ⟨⟨by decide +kernel, by decide +kernel⟩, List.mem_of_getElem? (i := 598) (by decide +kernel), List.mem_of_getElem? (i := 832) (by decide +kernel), List.mem_of_getElem? (i := 833) (by decide +kernel)⟩
theorem lw_p29 : lw_okq (⟨"DoubtCatcherModel", "ofHouse", "(II)I"⟩, 34) := ⟨⟨by decide +kernel, by decide +kernel⟩, List.mem_of_getElem? (i := 598) (by decide +kernel), List.mem_of_getElem? (i := 841) (by decide +kernel), List.mem_of_getElem? (i := 842) (by decide +kernel)⟩
theorem lw_p30 : lw_okq (⟨"DoubtCatcherModel", "ofTown", "(I)I"⟩, 34) := ⟨⟨by decide +kernel, by decide +kernel⟩, List.mem_of_getElem? (i := 598) (by decide +kernel), List.mem_of_getElem? (i := 850) (by decide +kernel), List.mem_of_getElem? (i := 851) (by decide +kernel)⟩
theorem lw_p31 : lw_okq (⟨"DoubtCatcherModel", "allDoubts", "()I"⟩, 34) := ⟨⟨by decide +kernel, by decide +kernel⟩, List.mem_of_getElem? (i := 598) (by decide +kernel), List.mem_of_getElem? (i := 854) (by decide +kernel), List.mem_of_getElem? (i := 855) (by decide +kernel)⟩
def lw_privs_2 : List (MethodName × Nat) := [(⟨"DoubtCatcherModel", "deed", "(I)I"⟩, 34), (⟨"DoubtCatcherModel", "end", "(II)I"⟩, 34), (⟨"DoubtCatcherModel", "refusal", "()I"⟩, 34), (⟨"DoubtCatcherModel", "keepNow", "()V"⟩, 34), (⟨"DoubtCatcherModel", "goWeeks", "()V"⟩, 34), (⟨"DoubtCatcherModel", "whyNot", "(III)I"⟩, 34), (⟨"DoubtCatcherModel", "goOne", "(I)V"⟩, 34), (⟨"DoubtCatcherModel", "clear", "()I"⟩, 34), (⟨"DoubtCatcherModel", "happen", "(III)V"⟩, 34), (⟨"DoubtCatcherModel", "breed", "()V"⟩, 34), (⟨"DoubtCatcherModel", "go", "()V"⟩, 34), (⟨"DoubtCatcherModel", "goal", "(I)I"⟩, 34), (⟨"DoubtCatcherModel", "back", "(I)I"⟩, 34), (⟨"DoubtCatcherModel", "ofHouse", "(II)I"⟩, 34), (⟨"DoubtCatcherModel", "ofTown", "(I)I"⟩, 34), (⟨"DoubtCatcherModel", "allDoubts", "()I"⟩, 34)]
theorem lw_r2 : ∀ q ∈ lw_privs_2, lw_okq q := List.forall_mem_cons.mpr ⟨lw_p16, List.forall_mem_cons.mpr ⟨lw_p17, List.forall_mem_cons.mpr ⟨lw_p18, List.forall_mem_cons.mpr ⟨lw_p19, List.forall_mem_cons.mpr ⟨lw_p20, List.forall_mem_cons.mpr ⟨lw_p21, List.forall_mem_cons.mpr ⟨lw_p22, List.forall_mem_cons.mpr ⟨lw_p23, List.forall_mem_cons.mpr ⟨lw_p24, List.forall_mem_cons.mpr ⟨lw_p25, List.forall_mem_cons.mpr ⟨lw_p26, List.forall_mem_cons.mpr ⟨lw_p27, List.forall_mem_cons.mpr ⟨lw_p28, List.forall_mem_cons.mpr ⟨lw_p29, List.forall_mem_cons.mpr ⟨lw_p30, List.forall_mem_cons.mpr ⟨lw_p31, fun _ h => absurd h List.not_mem_nil⟩⟩⟩⟩⟩⟩⟩⟩⟩⟩⟩⟩⟩⟩⟩⟩
theorem lw_p32 : lw_okq (⟨"DoubtCatcherModel", "isWatched", "(I)Z"⟩, 34) := ⟨⟨by decide +kernel, by decide +kernel⟩, List.mem_of_getElem? (i := 598) (by decide +kernel), List.mem_of_getElem? (i := 874) (by decide +kernel), List.mem_of_getElem? (i := 875) (by decide +kernel)⟩
theorem lw_p33 : lw_okq (⟨"DoubtCatcherModel", "lengthFrom", "(III)I"⟩, 34) := ⟨⟨by decide +kernel, by decide +kernel⟩, List.mem_of_getElem? (i := 598) (by decide +kernel), List.mem_of_getElem? (i := 888) (by decide +kernel), List.mem_of_getElem? (i := 889) (by decide +kernel)⟩
theorem lw_p34 : lw_okq (⟨"DoubtCatcherModel", "leastRow", "(I)I"⟩, 34) := ⟨⟨by decide +kernel, by decide +kernel⟩, List.mem_of_getElem? (i := 598) (by decide +kernel), List.mem_of_getElem? (i := 892) (by decide +kernel), List.mem_of_getElem? (i := 893) (by decide +kernel)⟩
theorem lw_p35 : lw_okq (⟨"DoubtCatcherModel", "inOne", "(III)I"⟩, 34) := ⟨⟨by decide +kernel, by decide +kernel⟩, List.mem_of_getElem? (i := 598) (by decide +kernel), List.mem_of_getElem? (i := 896) (by decide +kernel), List.mem_of_getElem? (i := 897) (by decide +kernel)⟩
theorem lw_p36 : lw_okq (⟨"DoubtCatcherModel", "inTwo", "(III)I"⟩, 34) := ⟨⟨by decide +kernel, by decide +kernel⟩, List.mem_of_getElem? (i := 598) (by decide +kernel), List.mem_of_getElem? (i := 900) (by decide +kernel), List.mem_of_getElem? (i := 901) (by decide +kernel)⟩
theorem lw_p37 : lw_okq (⟨"DoubtCatcherModel", "isFit", "(I)Z"⟩, 34) := ⟨⟨by decide +kernel, by decide +kernel⟩, List.mem_of_getElem? (i := 598) (by decide +kernel), List.mem_of_getElem? (i := 917) (by decide +kernel), List.mem_of_getElem? (i := 918) (by decide +kernel)⟩
theorem lw_p38 : lw_okq (⟨"DoubtCatcherModel", "mostLeft", "(I)I"⟩, 34) := ⟨⟨by decide +kernel, by decide +kernel⟩, List.mem_of_getElem? (i := 598) (by decide +kernel), List.mem_of_getElem? (i := 928) (by decide +kernel), List.mem_of_getElem? (i := 929) (by decide +kernel)⟩
theorem lw_p39 : lw_okq (⟨"DoubtCatcherModel", "oneGoingMore", "(I)Z"⟩, 34) := ⟨⟨by decide +kernel, by decide +kernel⟩, List.mem_of_getElem? (i := 598) (by decide +kernel), List.mem_of_getElem? (i := 936) (by decide +kernel), List.mem_of_getElem? (i := 937) (by decide +kernel)⟩
theorem lw_p40 : lw_okq (⟨"DoubtCatcherModel", "sureGoing", "(III)I"⟩, 34) := ⟨⟨by decide +kernel, by decide +kernel⟩, List.mem_of_getElem? (i := 598) (by decide +kernel), List.mem_of_getElem? (i := 940) (by decide +kernel), List.mem_of_getElem? (i := 941) (by decide +kernel)⟩
theorem lw_p41 : lw_okq (⟨"DoubtCatcherModel", "isSure", "(III)Z"⟩, 34) := ⟨⟨by decide +kernel, by decide +kernel⟩, List.mem_of_getElem? (i := 598) (by decide +kernel), List.mem_of_getElem? (i := 944) (by decide +kernel), List.mem_of_getElem? (i := 945) (by decide +kernel)⟩
theorem lw_p42 : lw_okq (⟨"DoubtCatcherModel", "passAll", "()V"⟩, 34) := ⟨⟨by decide +kernel, by decide +kernel⟩, List.mem_of_getElem? (i := 598) (by decide +kernel), List.mem_of_getElem? (i := 979) (by decide +kernel), List.mem_of_getElem? (i := 980) (by decide +kernel)⟩
theorem lw_p43 : lw_okq (⟨"DoubtCatcherModel", "pass", "(I)I"⟩, 34) := ⟨⟨by decide +kernel, by decide +kernel⟩, List.mem_of_getElem? (i := 598) (by decide +kernel), List.mem_of_getElem? (i := 983) (by decide +kernel), List.mem_of_getElem? (i := 984) (by decide +kernel)⟩
theorem lw_p44 : lw_okq (⟨"DoubtCatcherModel", "passRow", "([II)V"⟩, 34) := ⟨⟨by decide +kernel, by decide +kernel⟩, List.mem_of_getElem? (i := 598) (by decide +kernel), List.mem_of_getElem? (i := 987) (by decide +kernel), List.mem_of_getElem? (i := 988) (by decide +kernel)⟩
def lw_privs_3 : List (MethodName × Nat) := [(⟨"DoubtCatcherModel", "isWatched", "(I)Z"⟩, 34), (⟨"DoubtCatcherModel", "lengthFrom", "(III)I"⟩, 34), (⟨"DoubtCatcherModel", "leastRow", "(I)I"⟩, 34), (⟨"DoubtCatcherModel", "inOne", "(III)I"⟩, 34), (⟨"DoubtCatcherModel", "inTwo", "(III)I"⟩, 34), (⟨"DoubtCatcherModel", "isFit", "(I)Z"⟩, 34), (⟨"DoubtCatcherModel", "mostLeft", "(I)I"⟩, 34), (⟨"DoubtCatcherModel", "oneGoingMore", "(I)Z"⟩, 34), (⟨"DoubtCatcherModel", "sureGoing", "(III)I"⟩, 34), (⟨"DoubtCatcherModel", "isSure", "(III)Z"⟩, 34), (⟨"DoubtCatcherModel", "passAll", "()V"⟩, 34), (⟨"DoubtCatcherModel", "pass", "(I)I"⟩, 34), (⟨"DoubtCatcherModel", "passRow", "([II)V"⟩, 34)]
theorem lw_r3 : ∀ q ∈ lw_privs_3, lw_okq q := List.forall_mem_cons.mpr ⟨lw_p32, List.forall_mem_cons.mpr ⟨lw_p33, List.forall_mem_cons.mpr ⟨lw_p34, List.forall_mem_cons.mpr ⟨lw_p35, List.forall_mem_cons.mpr ⟨lw_p36, List.forall_mem_cons.mpr ⟨lw_p37, List.forall_mem_cons.mpr ⟨lw_p38, List.forall_mem_cons.mpr ⟨lw_p39, List.forall_mem_cons.mpr ⟨lw_p40, List.forall_mem_cons.mpr ⟨lw_p41, List.forall_mem_cons.mpr ⟨lw_p42, List.forall_mem_cons.mpr ⟨lw_p43, List.forall_mem_cons.mpr ⟨lw_p44, fun _ h => absurd h List.not_mem_nil⟩⟩⟩⟩⟩⟩⟩⟩⟩⟩⟩⟩⟩
def lw_privs : List (MethodName × Nat) := lw_privs_1 ++ (lw_privs_2 ++ (lw_privs_3))
def lw_tbl : List Cond := k2_sels lw_privs ++ tables_1
theorem lw_privs_ok : ∀ q ∈ lw_privs, lw_okq q := by
  show ∀ q ∈ lw_privs_1 ++ (lw_privs_2 ++ (lw_privs_3)), lw_okq q
  exact List.forall_mem_append.mpr ⟨lw_r1, List.forall_mem_append.mpr ⟨lw_r2, lw_r3⟩⟩
end
section
/-! ===== BEGIN printed: names, fields, word lists, decode rows ===== -/
def RX0 : String := "DoubtCatcher$Act"
def TX0 : u_T := fun k => match k with
  | 0 => ("DoubtCatcher$Act", "sign", "I", false)
  | 1 => ("DoubtCatcher$Act", "house", "I", false)
  | _ => ("DoubtCatcher$Act", "other", "I", false)
def tyX0 : Nat → FieldType := fun k => match k with
  | 0 => .int
  | 1 => .int
  | _ => .int
abbrev wsX00 : List Cond := u_ws RX0 TX0 3
theorem nmX0 : ∀ a, a < 3 → ∀ b, b < 3 → a ≠ b → (TX0 a).2.1 ≠ (TX0 b).2.1 := by decide +kernel
theorem tyX0_ok : ∀ k, k < 3 → parseFieldDescriptor (TX0 k).2.2.1 = some (tyX0 k) := by decide +kernel
abbrev cX0_init : ByteArray := prog_2_method_1_code
def yX0_init : MethodName := ⟨RX0, "<init>", "()V"⟩
abbrev cX0_read : ByteArray := prog_2_method_2_code
def yX0_read : MethodName := ⟨RX0, "read", "(LDoubtCatcher$Pad;I)I"⟩
abbrev cX0_draw : ByteArray := prog_2_method_3_code
def yX0_draw : MethodName := ⟨RX0, "draw", "(I)V"⟩
def RX1 : String := "DoubtCatcher$Asking"
def TX1 : u_T := fun k => match k with
  | 0 => ("DoubtCatcher$Asking", "doubts", "[I", true)
  | 1 => ("DoubtCatcher$Asking", "crumbs", "[I", true)
  | 2 => ("DoubtCatcher$Asking", "alike", "[I", true)
  | 3 => ("DoubtCatcher$Asking", "count", "I", false)
  | 4 => ("DoubtCatcher$Asking", "week", "I", false)
  | _ => ("DoubtCatcher$Asking", "left", "I", false)
def tyX1 : Nat → FieldType := fun k => match k with
  | 0 => .array .int
  | 1 => .array .int
  | 2 => .array .int
  | 3 => .int
  | 4 => .int
  | _ => .int
abbrev wsX10 : List Cond := u_ws RX1 TX1 6
theorem nmX1 : ∀ a, a < 6 → ∀ b, b < 6 → a ≠ b → (TX1 a).2.1 ≠ (TX1 b).2.1 := by decide +kernel
theorem tyX1_ok : ∀ k, k < 6 → parseFieldDescriptor (TX1 k).2.2.1 = some (tyX1 k) := by decide +kernel
abbrev cX1_init : ByteArray := prog_3_method_1_code
def yX1_init : MethodName := ⟨RX1, "<init>", "()V"⟩
abbrev cX1_weigh : ByteArray := prog_3_method_2_code
def yX1_weigh : MethodName := ⟨RX1, "weigh", "(LDoubtCatcher$Sights;)V"⟩
abbrev cX1_gather : ByteArray := prog_3_method_3_code
def yX1_gather : MethodName := ⟨RX1, "gather", "(LDoubtCatcher$Sights;)V"⟩
abbrev cX1_mostAlike : ByteArray := prog_3_method_4_code
def yX1_mostAlike : MethodName := ⟨RX1, "mostAlike", "()I"⟩
abbrev cX1_breedAll : ByteArray := prog_3_method_5_code
def yX1_breedAll : MethodName := ⟨RX1, "breedAll", "()V"⟩
def RX2 : String := "DoubtCatcher$Hearing"
def TX2 : u_T := fun k => match k with
  | 0 => ("DoubtCatcher$Hearing", "lengths", "[I", true)
  | 1 => ("DoubtCatcher$Hearing", "numbers", "[I", true)
  | 2 => ("DoubtCatcher$Hearing", "length", "I", false)
  | _ => ("DoubtCatcher$Hearing", "number", "I", false)
def tyX2 : Nat → FieldType := fun k => match k with
  | 0 => .array .int
  | 1 => .array .int
  | 2 => .int
  | _ => .int
abbrev wsX20 : List Cond := u_ws RX2 TX2 4
theorem nmX2 : ∀ a, a < 4 → ∀ b, b < 4 → a ≠ b → (TX2 a).2.1 ≠ (TX2 b).2.1 := by decide +kernel
theorem tyX2_ok : ∀ k, k < 4 → parseFieldDescriptor (TX2 k).2.2.1 = some (tyX2 k) := by decide +kernel
abbrev cX2_init : ByteArray := prog_4_method_1_code
def yX2_init : MethodName := ⟨RX2, "<init>", "()V"⟩
abbrev cX2_listen : ByteArray := prog_4_method_2_code
def yX2_listen : MethodName := ⟨RX2, "listen", "(III)V"⟩
abbrev cX2_compare : ByteArray := prog_4_method_3_code
def yX2_compare : MethodName := ⟨RX2, "compare", "(III)V"⟩
abbrev cX2_offer : ByteArray := prog_4_method_4_code
def yX2_offer : MethodName := ⟨RX2, "offer", "(III)V"⟩
def RX3 : String := "DoubtCatcher$Hunt"
def TX3 : u_T := fun k => match k with
  | 0 => ("DoubtCatcher$Hunt", "near", "[I", true)
  | 1 => ("DoubtCatcher$Hunt", "lost", "[I", true)
  | 2 => ("DoubtCatcher$Hunt", "shut", "[I", true)
  | 3 => ("DoubtCatcher$Hunt", "goings", "I", false)
  | _ => ("DoubtCatcher$Hunt", "first", "I", false)
def tyX3 : Nat → FieldType := fun k => match k with
  | 0 => .array .int
  | 1 => .array .int
  | 2 => .array .int
  | 3 => .int
  | _ => .int
abbrev wsX30 : List Cond := u_ws RX3 TX3 5
theorem nmX3 : ∀ a, a < 5 → ∀ b, b < 5 → a ≠ b → (TX3 a).2.1 ≠ (TX3 b).2.1 := by decide +kernel
theorem tyX3_ok : ∀ k, k < 5 → parseFieldDescriptor (TX3 k).2.2.1 = some (tyX3 k) := by decide +kernel
abbrev cX3_init : ByteArray := prog_5_method_1_code
def yX3_init : MethodName := ⟨RX3, "<init>", "()V"⟩
abbrev cX3_follow : ByteArray := prog_5_method_2_code
def yX3_follow : MethodName := ⟨RX3, "follow", "([III)V"⟩
abbrev cX3_shutIn : ByteArray := prog_5_method_3_code
def yX3_shutIn : MethodName := ⟨RX3, "shutIn", "()V"⟩
abbrev cX3_firstGoing : ByteArray := prog_5_method_4_code
def yX3_firstGoing : MethodName := ⟨RX3, "firstGoing", "(II)I"⟩
abbrev cX3_widen : ByteArray := prog_5_method_5_code
def yX3_widen : MethodName := ⟨RX3, "widen", "()Z"⟩
def RX4 : String := "DoubtCatcher$Image"
def TX4 : u_T := fun k => match k with
  | 0 => ("DoubtCatcher$Image", "town", "LDoubtCatcher$Town;", true)
  | 1 => ("DoubtCatcher$Image", "sights", "LDoubtCatcher$Sights;", true)
  | _ => ("DoubtCatcher$Image", "kept", "Z", false)
def tyX4 : Nat → FieldType := fun k => match k with
  | 0 => .object "DoubtCatcher$Town"
  | 1 => .object "DoubtCatcher$Sights"
  | _ => .boolean
abbrev wsX40 : List Cond := u_ws RX4 TX4 3
theorem nmX4 : ∀ a, a < 3 → ∀ b, b < 3 → a ≠ b → (TX4 a).2.1 ≠ (TX4 b).2.1 := by decide +kernel
theorem tyX4_ok : ∀ k, k < 3 → parseFieldDescriptor (TX4 k).2.2.1 = some (tyX4 k) := by decide +kernel
abbrev cX4_init : ByteArray := prog_6_method_1_code
def yX4_init : MethodName := ⟨RX4, "<init>", "()V"⟩
def RX5 : String := "DoubtCatcher$Pad"
def TX5 : u_T := fun k => match k with
  | 0 => ("DoubtCatcher$Pad", "signs", "[I", true)
  | _ => ("DoubtCatcher$Pad", "count", "I", false)
def tyX5 : Nat → FieldType := fun k => match k with
  | 0 => .array .int
  | _ => .int
abbrev wsX50 : List Cond := u_ws RX5 TX5 2
theorem nmX5 : ∀ a, a < 2 → ∀ b, b < 2 → a ≠ b → (TX5 a).2.1 ≠ (TX5 b).2.1 := by decide +kernel
theorem tyX5_ok : ∀ k, k < 2 → parseFieldDescriptor (TX5 k).2.2.1 = some (tyX5 k) := by decide +kernel
abbrev cX5_init : ByteArray := prog_7_method_1_code
def yX5_init : MethodName := ⟨RX5, "<init>", "()V"⟩
abbrev cX5_add : ByteArray := prog_7_method_2_code
def yX5_add : MethodName := ⟨RX5, "add", "(I)Z"⟩
abbrev cX5_signAt : ByteArray := prog_7_method_3_code
def yX5_signAt : MethodName := ⟨RX5, "signAt", "(I)I"⟩
abbrev cX5_houseAt : ByteArray := prog_7_method_4_code
def yX5_houseAt : MethodName := ⟨RX5, "houseAt", "(I)I"⟩
abbrev cX5_faultPlace : ByteArray := prog_7_method_5_code
def yX5_faultPlace : MethodName := ⟨RX5, "faultPlace", "()I"⟩
abbrev cX5_awaitedBehind : ByteArray := prog_7_method_6_code
def yX5_awaitedBehind : MethodName := ⟨RX5, "awaitedBehind", "(II)I"⟩
abbrev cX5_isDeed : ByteArray := prog_7_method_7_code
def yX5_isDeed : MethodName := ⟨RX5, "isDeed", "(I)Z"⟩
def RX6 : String := "DoubtCatcher$Sights"
def TX6 : u_T := fun k => match k with
  | 0 => ("DoubtCatcher$Sights", "seen", "[I", true)
  | 1 => ("DoubtCatcher$Sights", "count", "I", false)
  | _ => ("DoubtCatcher$Sights", "lastWeek", "I", false)
def tyX6 : Nat → FieldType := fun k => match k with
  | 0 => .array .int
  | 1 => .int
  | _ => .int
abbrev wsX60 : List Cond := u_ws RX6 TX6 3
theorem nmX6 : ∀ a, a < 3 → ∀ b, b < 3 → a ≠ b → (TX6 a).2.1 ≠ (TX6 b).2.1 := by decide +kernel
theorem tyX6_ok : ∀ k, k < 3 → parseFieldDescriptor (TX6 k).2.2.1 = some (tyX6 k) := by decide +kernel
abbrev cX6_init : ByteArray := prog_8_method_1_code
def yX6_init : MethodName := ⟨RX6, "<init>", "()V"⟩
abbrev cX6_clear : ByteArray := prog_8_method_2_code
def yX6_clear : MethodName := ⟨RX6, "clear", "()V"⟩
abbrev cX6_become : ByteArray := prog_8_method_3_code
def yX6_become : MethodName := ⟨RX6, "become", "(LDoubtCatcher$Sights;)V"⟩
abbrev cX6_add : ByteArray := prog_8_method_4_code
def yX6_add : MethodName := ⟨RX6, "add", "(II)Z"⟩
abbrev cX6_agree : ByteArray := prog_8_method_5_code
def yX6_agree : MethodName := ⟨RX6, "agree", "(II)Z"⟩
def RX7 : String := "DoubtCatcher$Telling"
def TX7 : u_T := fun k => match k with
  | 0 => ("DoubtCatcher$Telling", "acts", "I", false)
  | 1 => ("DoubtCatcher$Telling", "badAct", "I", false)
  | 2 => ("DoubtCatcher$Telling", "why", "I", false)
  | 3 => ("DoubtCatcher$Telling", "ridAct", "I", false)
  | _ => ("DoubtCatcher$Telling", "ridHouse", "I", false)
def tyX7 : Nat → FieldType := fun k => match k with
  | 0 => .int
  | 1 => .int
  | 2 => .int
  | 3 => .int
  | _ => .int
abbrev wsX70 : List Cond := u_ws RX7 TX7 5
theorem nmX7 : ∀ a, a < 5 → ∀ b, b < 5 → a ≠ b → (TX7 a).2.1 ≠ (TX7 b).2.1 := by decide +kernel
theorem tyX7_ok : ∀ k, k < 5 → parseFieldDescriptor (TX7 k).2.2.1 = some (tyX7 k) := by decide +kernel
abbrev cX7_init : ByteArray := prog_9_method_1_code
def yX7_init : MethodName := ⟨RX7, "<init>", "()V"⟩
abbrev cX7_follow : ByteArray := prog_9_method_2_code
def yX7_follow : MethodName := ⟨RX7, "follow", "(LDoubtCatcher$Pad;LDoubtCatcher$Act;LDoubtCatcher$Town;)V"⟩
abbrev cX7_noteRid : ByteArray := prog_9_method_3_code
def yX7_noteRid : MethodName := ⟨RX7, "noteRid", "(II)V"⟩
def RX8 : String := "DoubtCatcher$Town"
def TX8 : u_T := fun k => match k with
  | 0 => ("DoubtCatcher$Town", "doubts", "[I", true)
  | 1 => ("DoubtCatcher$Town", "crumbs", "[I", true)
  | 2 => ("DoubtCatcher$Town", "cages", "[I", true)
  | 3 => ("DoubtCatcher$Town", "smells", "[I", true)
  | 4 => ("DoubtCatcher$Town", "holes", "[I", true)
  | 5 => ("DoubtCatcher$Town", "ahead", "[I", true)
  | 6 => ("DoubtCatcher$Town", "bag", "I", false)
  | 7 => ("DoubtCatcher$Town", "sack", "I", false)
  | _ => ("DoubtCatcher$Town", "week", "I", false)
def tyX8 : Nat → FieldType := fun k => match k with
  | 0 => .array .int
  | 1 => .array .int
  | 2 => .array .int
  | 3 => .array .int
  | 4 => .array .int
  | 5 => .array .int
  | 6 => .int
  | 7 => .int
  | _ => .int
abbrev wsX80 : List Cond := u_ws RX8 TX8 9
theorem nmX8 : ∀ a, a < 9 → ∀ b, b < 9 → a ≠ b → (TX8 a).2.1 ≠ (TX8 b).2.1 := by decide +kernel
theorem tyX8_ok : ∀ k, k < 9 → parseFieldDescriptor (TX8 k).2.2.1 = some (tyX8 k) := by decide +kernel
abbrev cX8_init : ByteArray := prog_10_method_1_code
def yX8_init : MethodName := ⟨RX8, "<init>", "()V"⟩
abbrev cX8_become : ByteArray := prog_10_method_2_code
def yX8_become : MethodName := ⟨RX8, "become", "(LDoubtCatcher$Town;)V"⟩
abbrev cX8_ofHouse : ByteArray := prog_10_method_3_code
def yX8_ofHouse : MethodName := ⟨RX8, "ofHouse", "(II)I"⟩
abbrev cX8_allDoubts : ByteArray := prog_10_method_4_code
def yX8_allDoubts : MethodName := ⟨RX8, "allDoubts", "()I"⟩
abbrev cX8_clearHouses : ByteArray := prog_10_method_5_code
def yX8_clearHouses : MethodName := ⟨RX8, "clearHouses", "()I"⟩
abbrev cX8_hasHole : ByteArray := prog_10_method_6_code
def yX8_hasHole : MethodName := ⟨RX8, "hasHole", "(II)Z"⟩
abbrev cX8_turnHole : ByteArray := prog_10_method_7_code
def yX8_turnHole : MethodName := ⟨RX8, "turnHole", "(II)V"⟩
abbrev cX8_countHoles : ByteArray := prog_10_method_8_code
def yX8_countHoles : MethodName := ⟨RX8, "countHoles", "()I"⟩
abbrev cX8_holesAllMeet : ByteArray := prog_10_method_9_code
def yX8_holesAllMeet : MethodName := ⟨RX8, "holesAllMeet", "(I)Z"⟩
abbrev cX8_whyNot : ByteArray := prog_10_method_10_code
def yX8_whyNot : MethodName := ⟨RX8, "whyNot", "(LDoubtCatcher$Act;)I"⟩
abbrev cX8_take : ByteArray := prog_10_method_11_code
def yX8_take : MethodName := ⟨RX8, "take", "(LDoubtCatcher$Act;)V"⟩
abbrev cX8_passWeek : ByteArray := prog_10_method_12_code
def yX8_passWeek : MethodName := ⟨RX8, "passWeek", "()V"⟩
abbrev cX8_wander : ByteArray := prog_10_method_13_code
def yX8_wander : MethodName := ⟨RX8, "wander", "()V"⟩
abbrev cX8_quietestOf : ByteArray := prog_10_method_14_code
def yX8_quietestOf : MethodName := ⟨RX8, "quietestOf", "(I)I"⟩
def RX9 : String := "DoubtCatcher"
def TX9 : u_T := fun k => match k with
  | 0 => ("DoubtCatcher", "now", "LDoubtCatcher$Town;", true)
  | 1 => ("DoubtCatcher", "tried", "LDoubtCatcher$Town;", true)
  | 2 => ("DoubtCatcher", "pad", "LDoubtCatcher$Pad;", true)
  | 3 => ("DoubtCatcher", "act", "LDoubtCatcher$Act;", true)
  | 4 => ("DoubtCatcher", "telling", "LDoubtCatcher$Telling;", true)
  | 5 => ("DoubtCatcher", "sights", "LDoubtCatcher$Sights;", true)
  | 6 => ("DoubtCatcher", "asking", "LDoubtCatcher$Asking;", true)
  | 7 => ("DoubtCatcher", "hearing", "LDoubtCatcher$Hearing;", true)
  | 8 => ("DoubtCatcher", "hunt", "LDoubtCatcher$Hunt;", true)
  | _ => ("DoubtCatcher", "images", "[LDoubtCatcher$Image;", true)
def tyX9 : Nat → FieldType := fun k => match k with
  | 0 => .object "DoubtCatcher$Town"
  | 1 => .object "DoubtCatcher$Town"
  | 2 => .object "DoubtCatcher$Pad"
  | 3 => .object "DoubtCatcher$Act"
  | 4 => .object "DoubtCatcher$Telling"
  | 5 => .object "DoubtCatcher$Sights"
  | 6 => .object "DoubtCatcher$Asking"
  | 7 => .object "DoubtCatcher$Hearing"
  | 8 => .object "DoubtCatcher$Hunt"
  | _ => .array (.object "DoubtCatcher$Image")
abbrev wsX90 : List Cond := u_ws RX9 TX9 10
theorem nmX9 : ∀ a, a < 10 → ∀ b, b < 10 → a ≠ b → (TX9 a).2.1 ≠ (TX9 b).2.1 := by decide +kernel
theorem tyX9_ok : ∀ k, k < 10 → parseFieldDescriptor (TX9 k).2.2.1 = some (tyX9 k) := by decide +kernel
abbrev cX9_init : ByteArray := prog_1_method_1_code
def yX9_init : MethodName := ⟨RX9, "<init>", "()V"⟩
abbrev cX9_house : ByteArray := prog_1_method_2_code
def yX9_house : MethodName := ⟨RX9, "house", "(IIIII)I"⟩
abbrev cX9_hole : ByteArray := prog_1_method_3_code
def yX9_hole : MethodName := ⟨RX9, "hole", "(IIZ)I"⟩
abbrev cX9_bag : ByteArray := prog_1_method_4_code
def yX9_bag : MethodName := ⟨RX9, "bag", "(I)I"⟩
abbrev cX9_say : ByteArray := prog_1_method_5_code
def yX9_say : MethodName := ⟨RX9, "say", "(I)I"⟩
abbrev cX9_wipe : ByteArray := prog_1_method_6_code
def yX9_wipe : MethodName := ⟨RX9, "wipe", "()I"⟩
abbrev cX9_fault : ByteArray := prog_1_method_7_code
def yX9_fault : MethodName := ⟨RX9, "fault", "()I"⟩
abbrev cX9_judge : ByteArray := prog_1_method_8_code
def yX9_judge : MethodName := ⟨RX9, "judge", "(I)I"⟩
abbrev cX9_behind : ByteArray := prog_1_method_9_code
def yX9_behind : MethodName := ⟨RX9, "behind", "(II)I"⟩
abbrev cX9_town : ByteArray := prog_1_method_10_code
def yX9_town : MethodName := ⟨RX9, "town", "(I)I"⟩
abbrev cX9_rid : ByteArray := prog_1_method_11_code
def yX9_rid : MethodName := ⟨RX9, "rid", "(I)I"⟩
abbrev cX9_done : ByteArray := prog_1_method_12_code
def yX9_done : MethodName := ⟨RX9, "done", "()I"⟩
abbrev cX9_tryPad : ByteArray := prog_1_method_13_code
def yX9_tryPad : MethodName := ⟨RX9, "tryPad", "()I"⟩
abbrev cX9_alone : ByteArray := prog_1_method_14_code
def yX9_alone : MethodName := ⟨RX9, "alone", "(IIII)I"⟩
abbrev cX9_terriers : ByteArray := prog_1_method_15_code
def yX9_terriers : MethodName := ⟨RX9, "terriers", "(I)I"⟩
abbrev cX9_heard : ByteArray := prog_1_method_16_code
def yX9_heard : MethodName := ⟨RX9, "heard", "(IIII)I"⟩
abbrev cX9_gnawed : ByteArray := prog_1_method_17_code
def yX9_gnawed : MethodName := ⟨RX9, "gnawed", "(II)I"⟩
abbrev cX9_forget : ByteArray := prog_1_method_18_code
def yX9_forget : MethodName := ⟨RX9, "forget", "()I"⟩
abbrev cX9_fits : ByteArray := prog_1_method_19_code
def yX9_fits : MethodName := ⟨RX9, "fits", "(I)I"⟩
abbrev cX9_ask : ByteArray := prog_1_method_20_code
def yX9_ask : MethodName := ⟨RX9, "ask", "(I)I"⟩
abbrev cX9_chase : ByteArray := prog_1_method_21_code
def yX9_chase : MethodName := ⟨RX9, "chase", "(III)I"⟩
abbrev cX9_ever : ByteArray := prog_1_method_22_code
def yX9_ever : MethodName := ⟨RX9, "ever", "(IIII)J"⟩
abbrev cX9_year : ByteArray := prog_1_method_23_code
def yX9_year : MethodName := ⟨RX9, "year", "(III)I"⟩
abbrev cX9_image : ByteArray := prog_1_method_24_code
def yX9_image : MethodName := ⟨RX9, "image", "(I)I"⟩
abbrev cX9_restore : ByteArray := prog_1_method_25_code
def yX9_restore : MethodName := ⟨RX9, "restore", "(I)I"⟩
abbrev cX9_told : ByteArray := prog_1_method_26_code
def yX9_told : MethodName := ⟨RX9, "told", "(I)I"⟩
abbrev cX9_within : ByteArray := prog_1_method_27_code
def yX9_within : MethodName := ⟨RX9, "within", "(III)Z"⟩
abbrev cX9_isHouse : ByteArray := prog_1_method_28_code
def yX9_isHouse : MethodName := ⟨RX9, "isHouse", "(I)Z"⟩
abbrev cX9_isLetter : ByteArray := prog_1_method_29_code
def yX9_isLetter : MethodName := ⟨RX9, "isLetter", "(I)Z"⟩
abbrev cX9_grown : ByteArray := prog_1_method_30_code
def yX9_grown : MethodName := ⟨RX9, "grown", "(II)I"⟩
abbrev cX9_uncaged : ByteArray := prog_1_method_31_code
def yX9_uncaged : MethodName := ⟨RX9, "uncaged", "(II)I"⟩
abbrev cX9_power : ByteArray := prog_1_method_32_code
def yX9_power : MethodName := ⟨RX9, "power", "(JI)J"⟩
abbrev cX9_commonDivisor : ByteArray := prog_1_method_33_code
def yX9_commonDivisor : MethodName := ⟨RX9, "commonDivisor", "(JJ)J"⟩
def RX10 : String := "DoubtCatcherModel"
def TX10 : u_T := fun k => match k with
  | 0 => ("DoubtCatcherModel", "doubts", "[I", true)
  | 1 => ("DoubtCatcherModel", "crumbs", "[I", true)
  | 2 => ("DoubtCatcherModel", "cages", "[I", true)
  | 3 => ("DoubtCatcherModel", "smell", "[I", true)
  | 4 => ("DoubtCatcherModel", "holes", "[I", true)
  | 5 => ("DoubtCatcherModel", "inBag", "I", false)
  | 6 => ("DoubtCatcherModel", "inSack", "I", false)
  | 7 => ("DoubtCatcherModel", "weeks", "I", false)
  | 8 => ("DoubtCatcherModel", "sightWeek", "[I", true)
  | 9 => ("DoubtCatcherModel", "sightMany", "[I", true)
  | 10 => ("DoubtCatcherModel", "sights", "I", false)
  | 11 => ("DoubtCatcherModel", "pad", "[I", true)
  | 12 => ("DoubtCatcherModel", "padMany", "I", false)
  | 13 => ("DoubtCatcherModel", "act", "[I", true)
  | 14 => ("DoubtCatcherModel", "which", "[I", true)
  | 15 => ("DoubtCatcherModel", "other", "[I", true)
  | 16 => ("DoubtCatcherModel", "acts", "I", false)
  | 17 => ("DoubtCatcherModel", "caught", "I", false)
  | 18 => ("DoubtCatcherModel", "more", "[I", true)
  | 19 => ("DoubtCatcherModel", "had", "[I", true)
  | 20 => ("DoubtCatcherModel", "badAct", "I", false)
  | 21 => ("DoubtCatcherModel", "badWhy", "I", false)
  | 22 => ("DoubtCatcherModel", "clearAct", "I", false)
  | 23 => ("DoubtCatcherModel", "clearHouse", "I", false)
  | 24 => ("DoubtCatcherModel", "one", "[I", true)
  | 25 => ("DoubtCatcherModel", "two", "[I", true)
  | 26 => ("DoubtCatcherModel", "lengths", "[I", true)
  | 27 => ("DoubtCatcherModel", "byMany", "[I", true)
  | 28 => ("DoubtCatcherModel", "goings", "[I", true)
  | 29 => ("DoubtCatcherModel", "then", "[I", true)
  | 30 => ("DoubtCatcherModel", "kept", "[I", true)
  | 31 => ("DoubtCatcherModel", "isKept", "[Z", true)
  | 32 => ("DoubtCatcherModel", "keptAt", "I", false)
  | _ => ("DoubtCatcherModel", "isWriting", "Z", false)
def tyX10 : Nat → FieldType := fun k => match k with
  | 0 => .array .int
  | 1 => .array .int
  | 2 => .array .int
  | 3 => .array .int
  | 4 => .array .int
  | 5 => .int
  | 6 => .int
  | 7 => .int
  | 8 => .array .int
  | 9 => .array .int
  | 10 => .int
  | 11 => .array .int
  | 12 => .int
  | 13 => .array .int
  | 14 => .array .int
  | 15 => .array .int
  | 16 => .int
  | 17 => .int
  | 18 => .array .int
  | 19 => .array .int
  | 20 => .int
  | 21 => .int
  | 22 => .int
  | 23 => .int
  | 24 => .array .int
  | 25 => .array .int
  | 26 => .array .int
  | 27 => .array .int
  | 28 => .array .int
  | 29 => .array .int
  | 30 => .array .int
  | 31 => .array .boolean
  | 32 => .int
  | _ => .boolean
abbrev wsX100 : List Cond := u_ws RX10 TX10 34
theorem nmX10 : ∀ a, a < 34 → ∀ b, b < 34 → a ≠ b → (TX10 a).2.1 ≠ (TX10 b).2.1 := by decide +kernel
theorem tyX10_ok : ∀ k, k < 34 → parseFieldDescriptor (TX10 k).2.2.1 = some (tyX10 k) := by decide +kernel
abbrev cX10_init : ByteArray := prog_12_method_1_code
def yX10_init : MethodName := ⟨RX10, "<init>", "()V"⟩
abbrev cX10_in : ByteArray := prog_12_method_3_code
def yX10_in : MethodName := ⟨RX10, "in", "(JJJ)Z"⟩
abbrev cX10_isHouse : ByteArray := prog_12_method_4_code
def yX10_isHouse : MethodName := ⟨RX10, "isHouse", "(I)Z"⟩
abbrev cX10_ones : ByteArray := prog_12_method_5_code
def yX10_ones : MethodName := ⟨RX10, "ones", "(I)I"⟩
abbrev cX10_has : ByteArray := prog_12_method_6_code
def yX10_has : MethodName := ⟨RX10, "has", "(II)Z"⟩
abbrev cX10_with : ByteArray := prog_12_method_7_code
def yX10_with : MethodName := ⟨RX10, "with", "(IIZ)I"⟩
abbrev cX10_less : ByteArray := prog_12_method_8_code
def yX10_less : MethodName := ⟨RX10, "less", "(II)I"⟩
abbrev cX10_house : ByteArray := prog_12_method_9_code
def yX10_house : MethodName := ⟨RX10, "house", "(IIIII)I"⟩
abbrev cX10_bore : ByteArray := prog_12_method_10_code
def yX10_bore : MethodName := ⟨RX10, "bore", "(IIZ)V"⟩
abbrev cX10_hole : ByteArray := prog_12_method_11_code
def yX10_hole : MethodName := ⟨RX10, "hole", "(IIZ)I"⟩
abbrev cX10_bag : ByteArray := prog_12_method_12_code
def yX10_bag : MethodName := ⟨RX10, "bag", "(I)I"⟩
abbrev cX10_say : ByteArray := prog_12_method_13_code
def yX10_say : MethodName := ⟨RX10, "say", "(I)I"⟩
abbrev cX10_wipe : ByteArray := prog_12_method_14_code
def yX10_wipe : MethodName := ⟨RX10, "wipe", "()I"⟩
abbrev cX10_close : ByteArray := prog_12_method_15_code
def yX10_close : MethodName := ⟨RX10, "close", "(I)I"⟩
abbrev cX10_isName : ByteArray := prog_12_method_16_code
def yX10_isName : MethodName := ⟨RX10, "isName", "(I)Z"⟩
abbrev cX10_begin : ByteArray := prog_12_method_17_code
def yX10_begin : MethodName := ⟨RX10, "begin", "(I)I"⟩
abbrev cX10_deed : ByteArray := prog_12_method_18_code
def yX10_deed : MethodName := ⟨RX10, "deed", "(I)I"⟩
abbrev cX10_end : ByteArray := prog_12_method_19_code
def yX10_end : MethodName := ⟨RX10, "end", "(II)I"⟩
abbrev cX10_fault : ByteArray := prog_12_method_20_code
def yX10_fault : MethodName := ⟨RX10, "fault", "()I"⟩
abbrev cX10_whyNot : ByteArray := prog_12_method_21_code
def yX10_whyNot : MethodName := ⟨RX10, "whyNot", "(III)I"⟩
abbrev cX10_grown : ByteArray := prog_12_method_22_code
def yX10_grown : MethodName := ⟨RX10, "grown", "(II)I"⟩
abbrev cX10_breed : ByteArray := prog_12_method_23_code
def yX10_breed : MethodName := ⟨RX10, "breed", "()V"⟩
abbrev cX10_goal : ByteArray := prog_12_method_24_code
def yX10_goal : MethodName := ⟨RX10, "goal", "(I)I"⟩
abbrev cX10_go : ByteArray := prog_12_method_25_code
def yX10_go : MethodName := ⟨RX10, "go", "()V"⟩
abbrev cX10_happen : ByteArray := prog_12_method_26_code
def yX10_happen : MethodName := ⟨RX10, "happen", "(III)V"⟩
abbrev cX10_keepNow : ByteArray := prog_12_method_27_code
def yX10_keepNow : MethodName := ⟨RX10, "keepNow", "()V"⟩
abbrev cX10_back : ByteArray := prog_12_method_28_code
def yX10_back : MethodName := ⟨RX10, "back", "(I)I"⟩
abbrev cX10_clear : ByteArray := prog_12_method_29_code
def yX10_clear : MethodName := ⟨RX10, "clear", "()I"⟩
abbrev cX10_leastOf : ByteArray := prog_12_method_30_code
def yX10_leastOf : MethodName := ⟨RX10, "leastOf", "(I)I"⟩
abbrev cX10_goOne : ByteArray := prog_12_method_31_code
def yX10_goOne : MethodName := ⟨RX10, "goOne", "(I)V"⟩
abbrev cX10_goWeeks : ByteArray := prog_12_method_32_code
def yX10_goWeeks : MethodName := ⟨RX10, "goWeeks", "()V"⟩
abbrev cX10_refusal : ByteArray := prog_12_method_33_code
def yX10_refusal : MethodName := ⟨RX10, "refusal", "()I"⟩
abbrev cX10_judge : ByteArray := prog_12_method_34_code
def yX10_judge : MethodName := ⟨RX10, "judge", "(I)I"⟩
abbrev cX10_ofHouse : ByteArray := prog_12_method_35_code
def yX10_ofHouse : MethodName := ⟨RX10, "ofHouse", "(II)I"⟩
abbrev cX10_behind : ByteArray := prog_12_method_36_code
def yX10_behind : MethodName := ⟨RX10, "behind", "(II)I"⟩
abbrev cX10_allDoubts : ByteArray := prog_12_method_37_code
def yX10_allDoubts : MethodName := ⟨RX10, "allDoubts", "()I"⟩
abbrev cX10_ofTown : ByteArray := prog_12_method_38_code
def yX10_ofTown : MethodName := ⟨RX10, "ofTown", "(I)I"⟩
abbrev cX10_town : ByteArray := prog_12_method_39_code
def yX10_town : MethodName := ⟨RX10, "town", "(I)I"⟩
abbrev cX10_rid : ByteArray := prog_12_method_40_code
def yX10_rid : MethodName := ⟨RX10, "rid", "(I)I"⟩
abbrev cX10_done : ByteArray := prog_12_method_41_code
def yX10_done : MethodName := ⟨RX10, "done", "()I"⟩
abbrev cX10_alone : ByteArray := prog_12_method_42_code
def yX10_alone : MethodName := ⟨RX10, "alone", "(IIII)I"⟩
abbrev cX10_isWatched : ByteArray := prog_12_method_43_code
def yX10_isWatched : MethodName := ⟨RX10, "isWatched", "(I)Z"⟩
abbrev cX10_terriers : ByteArray := prog_12_method_44_code
def yX10_terriers : MethodName := ⟨RX10, "terriers", "(I)I"⟩
abbrev cX10_digit : ByteArray := prog_12_method_45_code
def yX10_digit : MethodName := ⟨RX10, "digit", "(III)I"⟩
abbrev cX10_isRow : ByteArray := prog_12_method_46_code
def yX10_isRow : MethodName := ⟨RX10, "isRow", "(II)Z"⟩
abbrev cX10_lengthFrom : ByteArray := prog_12_method_47_code
def yX10_lengthFrom : MethodName := ⟨RX10, "lengthFrom", "(III)I"⟩
abbrev cX10_inOne : ByteArray := prog_12_method_48_code
def yX10_inOne : MethodName := ⟨RX10, "inOne", "(III)I"⟩
abbrev cX10_inTwo : ByteArray := prog_12_method_49_code
def yX10_inTwo : MethodName := ⟨RX10, "inTwo", "(III)I"⟩
abbrev cX10_leastRow : ByteArray := prog_12_method_50_code
def yX10_leastRow : MethodName := ⟨RX10, "leastRow", "(I)I"⟩
abbrev cX10_heard : ByteArray := prog_12_method_51_code
def yX10_heard : MethodName := ⟨RX10, "heard", "(IIII)I"⟩
abbrev cX10_gnawed : ByteArray := prog_12_method_52_code
def yX10_gnawed : MethodName := ⟨RX10, "gnawed", "(II)I"⟩
abbrev cX10_forget : ByteArray := prog_12_method_53_code
def yX10_forget : MethodName := ⟨RX10, "forget", "()I"⟩
abbrev cX10_bred : ByteArray := prog_12_method_54_code
def yX10_bred : MethodName := ⟨RX10, "bred", "(II)I"⟩
abbrev cX10_isFit : ByteArray := prog_12_method_55_code
def yX10_isFit : MethodName := ⟨RX10, "isFit", "(I)Z"⟩
abbrev cX10_fits : ByteArray := prog_12_method_56_code
def yX10_fits : MethodName := ⟨RX10, "fits", "(I)I"⟩
abbrev cX10_mostLeft : ByteArray := prog_12_method_57_code
def yX10_mostLeft : MethodName := ⟨RX10, "mostLeft", "(I)I"⟩
abbrev cX10_ask : ByteArray := prog_12_method_58_code
def yX10_ask : MethodName := ⟨RX10, "ask", "(I)I"⟩
abbrev cX10_isSure : ByteArray := prog_12_method_59_code
def yX10_isSure : MethodName := ⟨RX10, "isSure", "(III)Z"⟩
abbrev cX10_sureGoing : ByteArray := prog_12_method_60_code
def yX10_sureGoing : MethodName := ⟨RX10, "sureGoing", "(III)I"⟩
abbrev cX10_oneGoingMore : ByteArray := prog_12_method_61_code
def yX10_oneGoingMore : MethodName := ⟨RX10, "oneGoingMore", "(I)Z"⟩
abbrev cX10_chase : ByteArray := prog_12_method_62_code
def yX10_chase : MethodName := ⟨RX10, "chase", "(III)I"⟩
abbrev cX10_lowest : ByteArray := prog_12_method_63_code
def yX10_lowest : MethodName := ⟨RX10, "lowest", "(JJI)J"⟩
abbrev cX10_power : ByteArray := prog_12_method_64_code
def yX10_power : MethodName := ⟨RX10, "power", "(JI)J"⟩
abbrev cX10_size : ByteArray := prog_12_method_65_code
def yX10_size : MethodName := ⟨RX10, "size", "(J)J"⟩
abbrev cX10_ever : ByteArray := prog_12_method_66_code
def yX10_ever : MethodName := ⟨RX10, "ever", "(IIII)J"⟩
abbrev cX10_actBy : ByteArray := prog_12_method_67_code
def yX10_actBy : MethodName := ⟨RX10, "actBy", "(I)I"⟩
abbrev cX10_year : ByteArray := prog_12_method_68_code
def yX10_year : MethodName := ⟨RX10, "year", "(III)I"⟩
abbrev cX10_pass : ByteArray := prog_12_method_69_code
def yX10_pass : MethodName := ⟨RX10, "pass", "(I)I"⟩
abbrev cX10_passRow : ByteArray := prog_12_method_70_code
def yX10_passRow : MethodName := ⟨RX10, "passRow", "([II)V"⟩
abbrev cX10_passAll : ByteArray := prog_12_method_71_code
def yX10_passAll : MethodName := ⟨RX10, "passAll", "()V"⟩
abbrev cX10_image : ByteArray := prog_12_method_72_code
def yX10_image : MethodName := ⟨RX10, "image", "(I)I"⟩
abbrev cX10_restore : ByteArray := prog_12_method_73_code
def yX10_restore : MethodName := ⟨RX10, "restore", "(I)I"⟩
abbrev cX10_told : ByteArray := prog_12_method_74_code
def yX10_told : MethodName := ⟨RX10, "told", "(I)I"⟩
def RJ6 : String := "java/lang/Integer"
def TJ6 : u_T := fun k => match k with
  | _ => ("", "", "", false)
def tyJ6 : Nat → FieldType := fun k => match k with
  | _ => .int
abbrev wsJ60 : List Cond := u_ws RJ6 TJ6 0
theorem nmJ6 : ∀ a, a < 0 → ∀ b, b < 0 → a ≠ b → (TJ6 a).2.1 ≠ (TJ6 b).2.1 := by decide +kernel
theorem tyJ6_ok : ∀ k, k < 0 → parseFieldDescriptor (TJ6 k).2.2.1 = some (tyJ6 k) := by decide +kernel
abbrev cJ6_bitCount_0f7a4 : ByteArray := prog_13_method_49_code
def yJ6_bitCount_0f7a4 : MethodName := ⟨RJ6, "bitCount", "(I)I"⟩
def RJ9 : String := "java/lang/Math"
def TJ9 : u_T := fun k => match k with
  | _ => ("", "", "", false)
def tyJ9 : Nat → FieldType := fun k => match k with
  | _ => .int
abbrev wsJ90 : List Cond := u_ws RJ9 TJ9 0
theorem nmJ9 : ∀ a, a < 0 → ∀ b, b < 0 → a ≠ b → (TJ9 a).2.1 ≠ (TJ9 b).2.1 := by decide +kernel
theorem tyJ9_ok : ∀ k, k < 0 → parseFieldDescriptor (TJ9 k).2.2.1 = some (tyJ9 k) := by decide +kernel
abbrev cJ9_floorMod_7cf53 : ByteArray := prog_14_method_50_code
def yJ9_floorMod_7cf53 : MethodName := ⟨RJ9, "floorMod", "(II)I"⟩
abbrev cJ9_abs_067f4 : ByteArray := prog_14_method_61_code
def yJ9_abs_067f4 : MethodName := ⟨RJ9, "abs", "(J)J"⟩
abbrev cJ9_max_7cf53 : ByteArray := prog_14_method_65_code
def yJ9_max_7cf53 : MethodName := ⟨RJ9, "max", "(II)I"⟩
abbrev cJ9_min_7cf53 : ByteArray := prog_14_method_69_code
def yJ9_min_7cf53 : MethodName := ⟨RJ9, "min", "(II)I"⟩
def RJ10 : String := "java/lang/System"
def TJ10 : u_T := fun k => match k with
  | _ => ("", "", "", false)
def tyJ10 : Nat → FieldType := fun k => match k with
  | _ => .int
abbrev wsJ100 : List Cond := u_ws RJ10 TJ10 0
theorem nmJ10 : ∀ a, a < 0 → ∀ b, b < 0 → a ≠ b → (TJ10 a).2.1 ≠ (TJ10 b).2.1 := by decide +kernel
theorem tyJ10_ok : ∀ k, k < 0 → parseFieldDescriptor (TJ10 k).2.2.1 = some (tyJ10 k) := by decide +kernel
def RJ7 : String := "java/util/Arrays"
def TJ7 : u_T := fun k => match k with
  | _ => ("", "", "", false)
def tyJ7 : Nat → FieldType := fun k => match k with
  | _ => .int
abbrev wsJ70 : List Cond := u_ws RJ7 TJ7 0
theorem nmJ7 : ∀ a, a < 0 → ∀ b, b < 0 → a ≠ b → (TJ7 a).2.1 ≠ (TJ7 b).2.1 := by decide +kernel
theorem tyJ7_ok : ∀ k, k < 0 → parseFieldDescriptor (TJ7 k).2.2.1 = some (tyJ7 k) := by decide +kernel
abbrev cJ7_fill_53178 : ByteArray := prog_16_method_103_code
def yJ7_fill_53178 : MethodName := ⟨RJ7, "fill", "([II)V"⟩
def RL : String := "DoubtCatcherLaw"
abbrev cL_law : ByteArray := code
def yL_law : MethodName := ⟨RL, "law", "([I)Z"⟩
abbrev vwCl : List vw_C := [(RX0, TX0, 3), (RX1, TX1, 6), (RX2, TX2, 4), (RX3, TX3, 5), (RX4, TX4, 3), (RX5, TX5, 2), (RX6, TX6, 3), (RX7, TX7, 5), (RX8, TX8, 9), (RX9, TX9, 10), (RX10, TX10, 34)]
end
section
-- the pure picture of the memory: the ints of cell k by their slots
abbrev Mem : Type := Nat → Nat → Int32
def upA (M : Mem) (k : Nat) (f : Nat → Int32) : Mem := fun k' => if k' = k then f else M k'
def up2 (M : Mem) (k j : Nat) (x : Int32) : Mem := upA M k (upd (M k) j x)
def cv (ad : Nat → Nat) : Value → Value
  | .ref k => .ref (ad k)
  | v => v
theorem cv_cat (ad : Nat → Nat) (v : Value) : (cv ad v).category = v.category := by cases v <;> rfl
def lw_good : List Cond := lw_tbl.filter goodWord
def nestW (w : Cond) : Bool := match w with
  | .methodLinkNest .. => true
  | .fieldLinkNest .. => true
  | _ => false
def lw_nest : List Cond := lw_tbl.filter nestW
theorem mem_good {w : Cond} (i : Nat) (h : (decide (lw_tbl[i]? = some w) && goodWord w) = true) : w ∈ lw_good := by
  rw [Bool.and_eq_true, decide_eq_true_eq] at h
  exact List.mem_filter.mpr ⟨List.mem_of_getElem? h.1, h.2⟩
theorem mem_nest {w : Cond} (i : Nat) (h : (decide (lw_tbl[i]? = some w) && nestW w) = true) : w ∈ lw_nest := by
  rw [Bool.and_eq_true, decide_eq_true_eq] at h
  exact List.mem_filter.mpr ⟨List.mem_of_getElem? h.1, h.2⟩
theorem mem_goods {ws : List Cond} (ps : List Nat) (h : (decide (ps.filterMap (fun i => lw_tbl[i]?) = ws) && ws.all goodWord) = true) : ∀ w ∈ ws, w ∈ lw_good := by
  rw [Bool.and_eq_true, decide_eq_true_eq] at h
  intro w hw
  have h2 := List.all_eq_true.mp h.2 w hw
  rw [← h.1] at hw
  obtain ⟨i, -, hi⟩ := List.mem_filterMap.mp hw
  exact List.mem_filter.mpr ⟨List.mem_of_getElem? hi, h2⟩
theorem good_in (a : Cond) (y : Cond) (hy : y ∈ lw_good) : GoodIn (a :: lw_good) (y :: lw_good) := by
  intro w hw
  have h : w ∈ lw_good := (List.mem_cons.mp hw).elim (fun e => e ▸ hy) id
  exact ⟨List.mem_cons_of_mem _ h, good_of_word (List.mem_filter.mp h).2⟩
theorem good_in0 (y : Cond) (hy : y ∈ lw_good) : GoodIn lw_good (y :: lw_good) := by
  intro w hw
  have h : w ∈ lw_good := (List.mem_cons.mp hw).elim (fun e => e ▸ hy) id
  exact ⟨h, good_of_word (List.mem_filter.mp h).2⟩
-- the shape of the world: tag 0 a row of ints, 1 a row of booleans, 2 the row of images, c + 3 an object of kind c
def shl : List (Nat × Nat × List (Option Nat)) :=
  [(12, 10, [some 1, some 8, some 15, some 17, some 18, some 19, some 21, some 25, some 28, some 32]),
   (11, 9, [some 2, some 3, some 4, some 5, some 6, some 7, none, none, none]), (0, 8, []), (0, 8, []), (0, 8, []), (0, 8, []), (0, 8, []), (0, 8, []),
   (11, 9, [some 9, some 10, some 11, some 12, some 13, some 14, none, none, none]), (0, 8, []), (0, 8, []), (0, 8, []), (0, 8, []), (0, 8, []), (0, 8, []),
   (8, 2, [some 16, none]), (0, 60, []),
   (3, 3, [none, none, none]),
   (10, 5, [none, none, none, none, none]),
   (9, 3, [some 20, none, none]), (0, 41, []),
   (4, 6, [some 22, some 23, some 24, none, none, none]), (0, 90, []), (0, 90, []), (0, 100, []),
   (5, 4, [some 26, some 27, none, none]), (0, 100, []), (0, 100, []),
   (6, 5, [some 29, some 30, some 31, none, none]), (0, 8, []), (0, 8, []), (0, 8, []),
   (2, 2, [some 33, some 43]),
   (7, 3, [some 34, some 41, none]),
   (11, 9, [some 35, some 36, some 37, some 38, some 39, some 40, none, none, none]), (0, 8, []), (0, 8, []), (0, 8, []), (0, 8, []), (0, 8, []), (0, 8, []),
   (9, 3, [some 42, none, none]), (0, 41, []),
   (7, 3, [some 44, some 51, none]),
   (11, 9, [some 45, some 46, some 47, some 48, some 49, some 50, none, none, none]), (0, 8, []), (0, 8, []), (0, 8, []), (0, 8, []), (0, 8, []), (0, 8, []),
   (9, 3, [some 52, none, none]), (0, 41, []),
   (13, 34, [some 54, some 55, some 56, some 57, some 58, none, none, none, some 59, some 60, none, some 61, none, some 62, some 63, some 64, none, none, some 65, some 66, none, none, none, none, some 67, some 68, some 69, some 70, some 71, some 72, some 73, some 74, none, none]),
   (0, 8, []), (0, 8, []), (0, 8, []), (0, 8, []), (0, 8, []), (0, 8, []), (0, 8, []), (0, 60, []), (0, 60, []), (0, 60, []), (0, 60, []), (0, 8, []), (0, 43, []), (0, 9, []), (0, 9, []), (0, 100, []), (0, 100, []), (0, 64, []), (0, 64, []), (0, 140, []), (1, 2, [])]
theorem shl_len : shl.length = 75 := by decide
def fv (ad : Nat → Nat) (f : Nat → Int32) (j : Nat) (r : Option Nat) : Value := match r with
  | some q => .ref (ad q)
  | none => .int (f j)
def ce (tI tZ tG : ClassId) (ad : Nat → Nat) (f : Nat → Int32) (q : Nat × Nat × List (Option Nat)) : va_E := match q with
  | (0, n, _) => .inl (tI, n, .inl f)
  | (1, n, _) => .inl (tZ, n, .inl f)
  | (2, n, rs) => .inl (tG, n, .inr (.inr (.inr (.inr (fun i => (rs.getD i none).map ad)))))
  | (c + 3, _, rs) => .inr (c, rs.mapIdx (fv ad f))
def cw (tI tZ tG : ClassId) (ad : Nat → Nat) (M : Mem) : va_W := shl.mapIdx (fun k q => (ad k, ce tI tZ tG ad (M k) q))
theorem cw_get {tI tZ tG : ClassId} {ad : Nat → Nat} {M : Mem} {k : Nat} {q : Nat × Nat × List (Option Nat)} (h : shl[k]? = some q) : (cw tI tZ tG ad M)[k]? = some (ad k, ce tI tZ tG ad (M k) q) := by
  unfold cw
  rw [List.getElem?_mapIdx, h]
  rfl
theorem cw_lt {tI tZ tG : ClassId} {ad : Nat → Nat} {M : Mem} {k : Nat} {q : Nat × va_E} (h : (cw tI tZ tG ad M)[k]? = some q) : k < 75 ∧ q.1 = ad k := by
  unfold cw at h
  rw [List.getElem?_mapIdx] at h
  cases hs : shl[k]? with
  | none => rw [hs] at h; cases h
  | some w =>
    rw [hs] at h
    cases h
    refine ⟨?_, rfl⟩
    have := (List.getElem?_eq_some_iff.mp hs).1
    rw [shl_len] at this
    exact this
theorem cw_D {tI tZ tG : ClassId} {ad : Nat → Nat} {A : Nat → Prop} (hi : ∀ i j, i < 75 → j < 75 → ad i = ad j → i = j) (hA : ∀ k, k < 75 → A (ad k)) (M : Mem) : va_D A (cw tI tZ tG ad M) := by
  refine ⟨fun i j p q h1 h2 e => ?_, fun k q h => ?_⟩
  · obtain ⟨a1, b1⟩ := cw_lt h1
    obtain ⟨a2, b2⟩ := cw_lt h2
    exact hi i j a1 a2 (by rw [← b1, ← b2]; exact e)
  · obtain ⟨a1, b1⟩ := cw_lt h
    rw [b1]
    exact hA k a1
theorem cw_set {tI tZ tG : ClassId} {ad : Nat → Nat} {M : Mem} {k : Nat} {q : Nat × Nat × List (Option Nat)} (h : shl[k]? = some q) (f : Nat → Int32) : (cw tI tZ tG ad M).set k (ad k, ce tI tZ tG ad f q) = cw tI tZ tG ad (upA M k f) := by
  apply List.ext_getElem?
  intro j
  have hl := (List.getElem?_eq_some_iff.mp h).1
  unfold cw
  rw [List.getElem?_set, List.getElem?_mapIdx, List.getElem?_mapIdx]
  by_cases e : k = j
  · subst e
    rw [if_pos rfl, if_pos (by rw [List.length_mapIdx]; exact hl), h]
    simp [upA]
  · rw [if_neg e]
    cases shl[j]? with
    | none => rfl
    | some w =>
      have e' : ¬ j = k := fun h => e h.symm
      simp [upA, e']
theorem ce_setI {tI tZ tG : ClassId} {ad : Nat → Nat} {f : Nat → Int32} {c n j : Nat} {rs : List (Option Nat)} (hj : rs[j]? = some none) (x : Int32) : (Sum.inr (c, (rs.mapIdx (fv ad f)).set j (.int x)) : va_E) = ce tI tZ tG ad (upd f j x) (c + 3, n, rs) := by
  show _ = Sum.inr (c, rs.mapIdx (fv ad (upd f j x)))
  congr 2
  apply List.ext_getElem?
  intro i
  rw [List.getElem?_set, List.getElem?_mapIdx, List.getElem?_mapIdx]
  by_cases e : j = i
  · subst e
    have hl := (List.getElem?_eq_some_iff.mp hj).1
    rw [if_pos rfl, if_pos (by rw [List.length_mapIdx]; exact hl), hj]
    simp [fv, upd]
  · rw [if_neg e]
    cases rs[i]? with
    | none => rfl
    | some w =>
      cases w with
      | none =>
        have e' : ¬ i = j := fun h => e h.symm
        simp [fv, upd, e']
      | some z => rfl
def tensF (j : Nat) : Int32 := ([1, 10, 100, 1000, 10000, 100000, 1000000, 10000000, 100000000, 1000000000] : List Int32).getD j 0
def signF (j : Nat) : Int32 := ([43, 45, 94, 95, 33, 111, 46, 46] : List Int32).getD j 0
def Aw (ad : Nat → Nat) : Nat → Prop := fun q => ∃ k, k < 75 ∧ q = ad k
def Wd (D : va_G) (tI tZ tG : ClassId) (ad : Nat → Nat) (A : Nat → Prop) (U : State) : Prop :=
  va_K D vwCl [(tI, .int), (tZ, .boolean), (tG, .object RX4)] U ∧
  (∀ i j, i < 75 → j < 75 → ad i = ad j → i = j) ∧ (∀ k, k < 75 → A (ad k)) ∧
  (va_Z RX9 "TENS" "[I" (.ref (ad 75)) A U U.heap ∧ va_T .int (ad 75) 10 (fun j => .int (tensF j)) A U U.heap) ∧
  (va_Z RX9 "YEAR_SIGNS" "[I" (.ref (ad 76)) A U U.heap ∧ va_T .int (ad 76) 8 (fun j => .int (signF j)) A U U.heap) ∧
  (∀ w ∈ lw_nest, va_Nw w U)
theorem nest_on {w : Cond} (h : w ∈ lw_nest) : w.onTables = true := by
  have h2 := (List.mem_filter.mp h).2
  unfold nestW at h2
  split at h2
  · rfl
  · rfl
  · cases h2
theorem nest_warm {w : Cond} (h : w ∈ lw_nest) {s U : State} (hW : s.WarmedH U.vm) (hZ : va_Nw w s) : va_Nw w U := by
  have h2 := (List.mem_filter.mp h).2
  unfold nestW at h2
  split at h2
  · exact va_Nw.warmM hW hZ
  · exact va_Nw.warmF hW hZ
  · cases h2
theorem Wd.calling {D : va_G} {tI tZ tG : ClassId} {ad : Nat → Nat} {A : Nat → Prop} {U : State} (g : JFrame) (mk : MethodId) (a : Array Value) (h : Wd D tI tZ tG ad A U) : Wd D tI tZ tG ad A (U.calling g mk a) := by
  obtain ⟨h1, h2, h3, ⟨h4, h5⟩, ⟨h6, h7⟩, h8⟩ := h
  have al : U.vm.Alike (U.calling g mk a).vm := Vm.Alike.refl U.vm
  exact ⟨va_K.moved al h1, h2, h3, ⟨va_Z.moved al h4, va_T.moved al h5⟩, ⟨va_Z.moved al h6, va_T.moved al h7⟩, fun w hw => va_Nw.same (u := U) (U := U.calling g mk a) (nest_on hw) rfl (h8 w hw)⟩
theorem Wd.warm {D : va_G} {tI tZ tG : ClassId} {ad : Nat → Nat} {A : Nat → Prop} {s U : State} {locs : List Loc} (hW : s.WarmedH U.vm) (hS : va_S A s.heap U.heap locs) (h : Wd D tI tZ tG ad A s) : Wd D tI tZ tG ad (Aw ad) U := by
  obtain ⟨h1, h2, h3, ⟨h4, h5⟩, ⟨h6, h7⟩, h8⟩ := h
  have al : s.vm.Alike U.vm := hW.alike
  have hn : ∀ q, Aw ad q → A q := fun q ⟨k, hk, e⟩ => e ▸ h3 k hk
  exact ⟨va_K.moved al h1, h2, fun k hk => ⟨k, hk, rfl⟩, ⟨((va_Z.moved al h4).kept hS.2.1).narrow hn, ((va_T.moved al h5).kept hS.2.1).narrow hn⟩, ⟨((va_Z.moved al h6).kept hS.2.1).narrow hn, ((va_T.moved al h7).kept hS.2.1).narrow hn⟩, fun w hw => nest_warm hw hW (h8 w hw)⟩
end
section
def inb (i : Int32) (n : Nat) : Bool := decide (0 ≤ i.toInt) && decide (i.toInt < (n : Int))
theorem inb_in {i : Int32} {n : Nat} (h : inb i n = true) : vp_in i n := by
  unfold inb at h
  rw [Bool.and_eq_true, decide_eq_true_eq, decide_eq_true_eq] at h
  exact vp_in_iff.mpr h
abbrev ix (i : Int32) : Nat := i.toNatClampNeg
def rIns (r : Option Value) : Instr := match r with
  | none => .return_
  | some (.long _) => .lreturn
  | some _ => .ireturn
def retOK (ret : Option FieldType) (r : Option Value) : Prop := (ret = none ∧ r = none) ∨ (∃ v, ret = some .long ∧ r = some (.long v)) ∨ ∃ ty v, ret = some ty ∧ r = some (.int v) ∧ narrow ty (.int v) = .int v
def lh (ad : Nat → Nat) (ls : Array Slot) (L : List (Option Value)) : Prop := ls.size = L.length ∧ lv_wf ls ∧ ∀ (i : Nat) (v : Value), L[i]? = some (some v) → ls[i]? = some (Slot.val (cv ad v))
def asc (ad : Nat → Nat) (L : List (Option Value)) : List (Nat × Value) := L.zipIdx.filterMap (fun q => q.1.map (fun v => (q.2, cv ad v)))
theorem asc_mem {ad : Nat → Nat} {L : List (Option Value)} {q : Nat × Value} : q ∈ asc ad L ↔ ∃ v, L[q.1]? = some (some v) ∧ q.2 = cv ad v := by
  unfold asc
  rw [List.mem_filterMap]
  constructor
  · rintro ⟨⟨o, i⟩, h1, h2⟩
    have h3 := List.mem_zipIdx_iff_getElem?.mp h1
    cases o with
    | none => cases h2
    | some v =>
      cases h2
      exact ⟨v, h3, rfl⟩
  · rintro ⟨v, h1, h2⟩
    refine ⟨(some v, q.1), List.mem_zipIdx_iff_getElem?.mpr h1, ?_⟩
    show some (q.1, cv ad v) = some q
    rw [← h2]
theorem lh.has {ad : Nat → Nat} {ls : Array Slot} {L : List (Option Value)} (h : lh ad ls L) : lv_has ls L.length (asc ad L) := by
  refine ⟨h.1, h.2.1, fun q hq => ?_⟩
  obtain ⟨v, h1, h2⟩ := asc_mem.mp hq
  rw [h2]
  exact h.2.2 q.1 v h1
def noL2 (L : List (Option Value)) (i : Nat) : Bool := match i with
  | 0 => true
  | i + 1 => match L[i]? with
    | some (some v) => v.category == 1
    | _ => true
theorem noL2_spec {L : List (Option Value)} {i j : Nat} {v : Value} (h : noL2 L i = true) (hj : L[j]? = some (some v)) : ¬ (j + 1 = i ∧ v.category = 2) := by
  rintro ⟨e, hc⟩
  subst e
  unfold noL2 at h
  simp only [hj, hc] at h
  exact absurd h (by decide)
theorem lh_store {ad : Nat → Nat} {ls' : Array Slot} {L : List (Option Value)} {i : Nat} {x : Value} (hi : i < L.length) (hn : noL2 L i = true) (h : lv_has ls' L.length ((i, cv ad x) :: (asc ad L).filter (fun q => !(q.1 == i) && !(q.1 + 1 == i && q.2.category == 2)))) : lh ad ls' (L.set i (some x)) := by
  refine ⟨by rw [List.length_set]; exact h.1, h.2.1, fun j v hj => ?_⟩
  rw [List.getElem?_set] at hj
  by_cases e : i = j
  · subst e
    rw [if_pos rfl, if_pos hi] at hj
    cases hj
    exact h.2.2 (i, cv ad x) List.mem_cons_self
  · rw [if_neg e] at hj
    refine h.2.2 (j, cv ad v) (List.mem_cons_of_mem _ (List.mem_filter.mpr ⟨asc_mem.mpr ⟨v, hj, rfl⟩, ?_⟩))
    have e' : ¬ j = i := fun h => e h.symm
    have h3 := noL2_spec hn hj
    by_cases e2 : j + 1 = i
    · have : ¬ v.category = 2 := fun h => h3 ⟨e2, h⟩
      simp [e', cv_cat, this]
    · simp [e', e2]
theorem lh_store2 {ad : Nat → Nat} {ls' : Array Slot} {L : List (Option Value)} {i : Nat} {x : Value} (hi : i < L.length) (hn : noL2 L i = true) (h : lv_has ls' L.length ((i, cv ad x) :: (asc ad L).filter (fun q => !(q.1 == i) && (!(q.1 == i + 1) && !(q.1 + 1 == i && q.2.category == 2))))) : lh ad ls' ((L.set i (some x)).set (i + 1) none) := by
  refine ⟨by rw [List.length_set, List.length_set]; exact h.1, h.2.1, fun j v hj => ?_⟩
  rw [List.getElem?_set] at hj
  by_cases e1 : i + 1 = j
  · subst e1
    rw [if_pos rfl] at hj
    split at hj <;> cases hj
  · rw [if_neg e1, List.getElem?_set] at hj
    by_cases e : i = j
    · subst e
      rw [if_pos rfl, if_pos hi] at hj
      cases hj
      exact h.2.2 (i, cv ad x) List.mem_cons_self
    · rw [if_neg e] at hj
      refine h.2.2 (j, cv ad v) (List.mem_cons_of_mem _ (List.mem_filter.mpr ⟨asc_mem.mpr ⟨v, hj, rfl⟩, ?_⟩))
      have e' : ¬ j = i := fun h => e h.symm
      have e1' : ¬ j = i + 1 := fun h => e1 h.symm
      have h3 := noL2_spec hn hj
      by_cases e2 : j + 1 = i
      · have : ¬ v.category = 2 := fun h => h3 ⟨e2, h⟩
        simp [e', e1', cv_cat, this]
      · simp [e', e1', e2]
def Fx (sc : Option (Nat × (Nat → Int32))) (own : String) (cc : ByteArray) (dp nL : Nat) (p : Program) (R : Room) (s : State) (m : MethodId) (args : Array Value) (c : Code) (cells slots : Nat) (D : va_G) (tI tZ tG : ClassId) (ad : Nat → Nat) (A : Nat → Prop) : Prop :=
  p.tables.exec = Jvm.exec ∧ c.code = cc ∧ c.maxLocals = nL ∧ s.vm.findClass own = some m.cls ∧ (∀ w ∈ lw_good, w.before args s = true) ∧ (dp ≤ R.frames ∧ 34 * dp ≤ R.locals ∧ cells ≤ R.cells ∧ slots ≤ R.slots) ∧ Wd D tI tZ tG ad A s ∧ ∀ n f, sc = some (n, f) → va_X (ad 77) n f s s.heap ∧ ad 77 < s.heap.size ∧ ¬ A (ad 77)
/-- from here the method comes to its return, with what o says -/
def Ev {α : Type} (sc : Option (Nat × (Nat → Int32))) (wr : α → Option Value × Mem) (own : String) (cc : ByteArray) (ret : Option FieldType) (dp pc : Nat) (L : List (Option Value)) (st : List Value) (M : Mem) (o : Option α) : Prop :=
  ∀ (b : α), o = some b → ∀ (p : Program) (l : Launch) (e : Env) (R : Room) (s : State) (m : MethodId) (args : Array Value) (below : List Frame) (meth : Method) (c : Code) (H : Heap) (locs : List Loc) (cells slots : Nat) (Q : State → Prop) (D : va_G) (tI tZ tG : ClassId) (ad : Nat → Nat) (A : Nat → Prop) (ls : Array Slot),
    Fx sc own cc dp L.length p R s m args c cells slots D tI tZ tG ad A → va_P D vwCl (cw tI tZ tG ad M) H → va_S A s.heap H locs → lh ad ls L →
    (∀ (H' : Heap) (locs' : List Loc) (ls' : Array Slot) (pc' : Nat), retOK ret (wr b).1 → va_P D vwCl (cw tI tZ tG ad (wr b).2) H' → va_S A s.heap H' locs' → decode cc pc' = .ok (rIns (wr b).1, 1) → W p l e R s m args below meth c H' locs' cells slots Q (F0 m pc' ls' ((wr b).1.map (cv ad)).toList)) →
    W p l e R s m args below meth c H locs cells slots Q (F0 m pc ls (st.map (cv ad)))
section Rules
variable {α : Type} {sc : Option (Nat × (Nat → Int32))} {wr : α → Option Value × Mem} {own : String} {cc : ByteArray} {ret : Option FieldType} {dp pc : Nat} {L : List (Option Value)} {st : List Value} {M : Mem} {o o1 o2 : Option α}
theorem e_none : Ev sc wr own cc ret dp pc L st M none := fun b hb => by cases hb
theorem e_iconst {n : Int} {v : Int32} (hd : decode cc pc = .ok (.iconst n, 1)) (hv : Int32.ofInt n = v) (k : Ev sc wr own cc ret dp (pc + 1) L (.int v :: st) M o) : Ev sc wr own cc ret dp pc L (st) M o := by
  intro b hb p l e R s m args below meth c H locs cells slots Q D tI tZ tG ad A ls hF hP hS hl hX
  exact lv_iconst hF.1 hF.2.1 hd hv (k b hb p l e R s m args below meth c H locs cells slots Q D tI tZ tG ad A ls hF hP hS hl hX)
theorem e_bipush {n : Int} {v : Int32} (hd : decode cc pc = .ok (.bipush n, 2)) (hv : (Int8.ofInt n).toInt32 = v) (k : Ev sc wr own cc ret dp (pc + 2) L (.int v :: st) M o) : Ev sc wr own cc ret dp pc L (st) M o := by
  intro b hb p l e R s m args below meth c H locs cells slots Q D tI tZ tG ad A ls hF hP hS hl hX
  exact lv_bipush hF.1 hF.2.1 hd hv (k b hb p l e R s m args below meth c H locs cells slots Q D tI tZ tG ad A ls hF hP hS hl hX)
theorem e_sipush {n : Int} {v : Int32} (hd : decode cc pc = .ok (.sipush n, 3)) (hv : (Int16.ofInt n).toInt32 = v) (k : Ev sc wr own cc ret dp (pc + 3) L (.int v :: st) M o) : Ev sc wr own cc ret dp pc L (st) M o := by
  intro b hb p l e R s m args below meth c H locs cells slots Q D tI tZ tG ad A ls hF hP hS hl hX
  exact lv_sipush hF.1 hF.2.1 hd hv (k b hb p l e R s m args below meth c H locs cells slots Q D tI tZ tG ad A ls hF hP hS hl hX)
theorem e_lconst {n : Fin 2} {v : Int64} (hd : decode cc pc = .ok (.lconst n, 1)) (hv : Int64.ofNat (n : Nat) = v) (k : Ev sc wr own cc ret dp (pc + 1) L (.long v :: st) M o) : Ev sc wr own cc ret dp pc L (st) M o := by
  intro b hb p l e R s m args below meth c H locs cells slots Q D tI tZ tG ad A ls hF hP hS hl hX
  exact lv_lconst hF.1 hF.2.1 hd hv (k b hb p l e R s m args below meth c H locs cells slots Q D tI tZ tG ad A ls hF hP hS hl hX)
theorem e_iload_n {k : Fin 4} {x : Int32} (hd : decode cc pc = .ok (.iload_n k, 1)) (hx : L[(k : Nat)]? = some (some (.int x))) (k : Ev sc wr own cc ret dp (pc + 1) L (.int x :: st) M o) : Ev sc wr own cc ret dp pc L (st) M o := by
  intro b hb p l e R s m args below meth c H locs cells slots Q D tI tZ tG ad A ls hF hP hS hl hX
  exact lv_iload_n hF.1 hF.2.1 hd rfl (hl.2.2 _ _ hx) (k b hb p l e R s m args below meth c H locs cells slots Q D tI tZ tG ad A ls hF hP hS hl hX)
theorem e_iload {i : Nat} {x : Int32} (hd : decode cc pc = .ok (.iload i, 2)) (hx : L[i]? = some (some (.int x))) (k : Ev sc wr own cc ret dp (pc + 2) L (.int x :: st) M o) : Ev sc wr own cc ret dp pc L (st) M o := by
  intro b hb p l e R s m args below meth c H locs cells slots Q D tI tZ tG ad A ls hF hP hS hl hX
  exact lv_iload hF.1 hF.2.1 hd (hl.2.2 _ _ hx) (k b hb p l e R s m args below meth c H locs cells slots Q D tI tZ tG ad A ls hF hP hS hl hX)
theorem e_lload_n {k : Fin 4} {x : Int64} (hd : decode cc pc = .ok (.lload_n k, 1)) (hx : L[(k : Nat)]? = some (some (.long x))) (k : Ev sc wr own cc ret dp (pc + 1) L (.long x :: st) M o) : Ev sc wr own cc ret dp pc L (st) M o := by
  intro b hb p l e R s m args below meth c H locs cells slots Q D tI tZ tG ad A ls hF hP hS hl hX
  exact lv_lload_n hF.1 hF.2.1 hd rfl (hl.2.2 _ _ hx) (k b hb p l e R s m args below meth c H locs cells slots Q D tI tZ tG ad A ls hF hP hS hl hX)
theorem e_lload {i : Nat} {x : Int64} (hd : decode cc pc = .ok (.lload i, 2)) (hx : L[i]? = some (some (.long x))) (k : Ev sc wr own cc ret dp (pc + 2) L (.long x :: st) M o) : Ev sc wr own cc ret dp pc L (st) M o := by
  intro b hb p l e R s m args below meth c H locs cells slots Q D tI tZ tG ad A ls hF hP hS hl hX
  exact lv_lload hF.1 hF.2.1 hd (hl.2.2 _ _ hx) (k b hb p l e R s m args below meth c H locs cells slots Q D tI tZ tG ad A ls hF hP hS hl hX)
theorem e_aload_n {k : Fin 4} {x : Nat} (hd : decode cc pc = .ok (.aload_n k, 1)) (hx : L[(k : Nat)]? = some (some (.ref x))) (k : Ev sc wr own cc ret dp (pc + 1) L (.ref x :: st) M o) : Ev sc wr own cc ret dp pc L (st) M o := by
  intro b hb p l e R s m args below meth c H locs cells slots Q D tI tZ tG ad A ls hF hP hS hl hX
  exact lv_aload_n hF.1 hF.2.1 hd rfl (hl.2.2 _ _ hx) (k b hb p l e R s m args below meth c H locs cells slots Q D tI tZ tG ad A ls hF hP hS hl hX)
theorem e_iadd {x y : Int32} (hd : decode cc pc = .ok (.iadd, 1)) (k : Ev sc wr own cc ret dp (pc + 1) L (.int (x + y) :: st) M o) : Ev sc wr own cc ret dp pc L (.int y :: .int x :: st) M o := by
  intro b hb p l e R s m args below meth c H locs cells slots Q D tI tZ tG ad A ls hF hP hS hl hX
  exact lv_iadd hF.1 hF.2.1 hd (k b hb p l e R s m args below meth c H locs cells slots Q D tI tZ tG ad A ls hF hP hS hl hX)
theorem e_isub {x y : Int32} (hd : decode cc pc = .ok (.isub, 1)) (k : Ev sc wr own cc ret dp (pc + 1) L (.int (x - y) :: st) M o) : Ev sc wr own cc ret dp pc L (.int y :: .int x :: st) M o := by
  intro b hb p l e R s m args below meth c H locs cells slots Q D tI tZ tG ad A ls hF hP hS hl hX
  exact lv_isub hF.1 hF.2.1 hd (k b hb p l e R s m args below meth c H locs cells slots Q D tI tZ tG ad A ls hF hP hS hl hX)
theorem e_imul {x y : Int32} (hd : decode cc pc = .ok (.imul, 1)) (k : Ev sc wr own cc ret dp (pc + 1) L (.int (x * y) :: st) M o) : Ev sc wr own cc ret dp pc L (.int y :: .int x :: st) M o := by
  intro b hb p l e R s m args below meth c H locs cells slots Q D tI tZ tG ad A ls hF hP hS hl hX
  exact lv_imul hF.1 hF.2.1 hd (k b hb p l e R s m args below meth c H locs cells slots Q D tI tZ tG ad A ls hF hP hS hl hX)
theorem e_iand {x y : Int32} (hd : decode cc pc = .ok (.iand, 1)) (k : Ev sc wr own cc ret dp (pc + 1) L (.int (x &&& y) :: st) M o) : Ev sc wr own cc ret dp pc L (.int y :: .int x :: st) M o := by
  intro b hb p l e R s m args below meth c H locs cells slots Q D tI tZ tG ad A ls hF hP hS hl hX
  exact lv_iand hF.1 hF.2.1 hd (k b hb p l e R s m args below meth c H locs cells slots Q D tI tZ tG ad A ls hF hP hS hl hX)
theorem e_ior {x y : Int32} (hd : decode cc pc = .ok (.ior, 1)) (k : Ev sc wr own cc ret dp (pc + 1) L (.int (x ||| y) :: st) M o) : Ev sc wr own cc ret dp pc L (.int y :: .int x :: st) M o := by
  intro b hb p l e R s m args below meth c H locs cells slots Q D tI tZ tG ad A ls hF hP hS hl hX
  exact lv_ior hF.1 hF.2.1 hd (k b hb p l e R s m args below meth c H locs cells slots Q D tI tZ tG ad A ls hF hP hS hl hX)
theorem e_ixor {x y : Int32} (hd : decode cc pc = .ok (.ixor, 1)) (k : Ev sc wr own cc ret dp (pc + 1) L (.int (x ^^^ y) :: st) M o) : Ev sc wr own cc ret dp pc L (.int y :: .int x :: st) M o := by
  intro b hb p l e R s m args below meth c H locs cells slots Q D tI tZ tG ad A ls hF hP hS hl hX
  exact lv_ixor hF.1 hF.2.1 hd (k b hb p l e R s m args below meth c H locs cells slots Q D tI tZ tG ad A ls hF hP hS hl hX)
theorem e_ishl {x y : Int32} (hd : decode cc pc = .ok (.ishl, 1)) (k : Ev sc wr own cc ret dp (pc + 1) L (.int (x <<< (y &&& 31)) :: st) M o) : Ev sc wr own cc ret dp pc L (.int y :: .int x :: st) M o := by
  intro b hb p l e R s m args below meth c H locs cells slots Q D tI tZ tG ad A ls hF hP hS hl hX
  exact lv_ishl hF.1 hF.2.1 hd (k b hb p l e R s m args below meth c H locs cells slots Q D tI tZ tG ad A ls hF hP hS hl hX)
theorem e_ishr {x y : Int32} (hd : decode cc pc = .ok (.ishr, 1)) (k : Ev sc wr own cc ret dp (pc + 1) L (.int (x >>> (y &&& 31)) :: st) M o) : Ev sc wr own cc ret dp pc L (.int y :: .int x :: st) M o := by
  intro b hb p l e R s m args below meth c H locs cells slots Q D tI tZ tG ad A ls hF hP hS hl hX
  exact lv_ishr hF.1 hF.2.1 hd (k b hb p l e R s m args below meth c H locs cells slots Q D tI tZ tG ad A ls hF hP hS hl hX)
theorem e_iushr {x y : Int32} (hd : decode cc pc = .ok (.iushr, 1)) (k : Ev sc wr own cc ret dp (pc + 1) L (.int ((x.toUInt32 >>> (y.toUInt32 &&& Int32.toUInt32 31)).toInt32) :: st) M o) : Ev sc wr own cc ret dp pc L (.int y :: .int x :: st) M o := by
  intro b hb p l e R s m args below meth c H locs cells slots Q D tI tZ tG ad A ls hF hP hS hl hX
  exact lv_iushr hF.1 hF.2.1 hd rfl (k b hb p l e R s m args below meth c H locs cells slots Q D tI tZ tG ad A ls hF hP hS hl hX)
theorem e_ladd {x y : Int64} (hd : decode cc pc = .ok (.ladd, 1)) (k : Ev sc wr own cc ret dp (pc + 1) L (.long (x + y) :: st) M o) : Ev sc wr own cc ret dp pc L (.long y :: .long x :: st) M o := by
  intro b hb p l e R s m args below meth c H locs cells slots Q D tI tZ tG ad A ls hF hP hS hl hX
  exact lv_ladd hF.1 hF.2.1 hd (k b hb p l e R s m args below meth c H locs cells slots Q D tI tZ tG ad A ls hF hP hS hl hX)
theorem e_lsub {x y : Int64} (hd : decode cc pc = .ok (.lsub, 1)) (k : Ev sc wr own cc ret dp (pc + 1) L (.long (x - y) :: st) M o) : Ev sc wr own cc ret dp pc L (.long y :: .long x :: st) M o := by
  intro b hb p l e R s m args below meth c H locs cells slots Q D tI tZ tG ad A ls hF hP hS hl hX
  exact lv_lsub hF.1 hF.2.1 hd (k b hb p l e R s m args below meth c H locs cells slots Q D tI tZ tG ad A ls hF hP hS hl hX)
theorem e_lmul {x y : Int64} (hd : decode cc pc = .ok (.lmul, 1)) (k : Ev sc wr own cc ret dp (pc + 1) L (.long (x * y) :: st) M o) : Ev sc wr own cc ret dp pc L (.long y :: .long x :: st) M o := by
  intro b hb p l e R s m args below meth c H locs cells slots Q D tI tZ tG ad A ls hF hP hS hl hX
  exact lv_lmul hF.1 hF.2.1 hd (k b hb p l e R s m args below meth c H locs cells slots Q D tI tZ tG ad A ls hF hP hS hl hX)
theorem e_lneg {x : Int64} (hd : decode cc pc = .ok (.lneg, 1)) (k : Ev sc wr own cc ret dp (pc + 1) L (.long (-x) :: st) M o) : Ev sc wr own cc ret dp pc L (.long x :: st) M o := by
  intro b hb p l e R s m args below meth c H locs cells slots Q D tI tZ tG ad A ls hF hP hS hl hX
  exact lv_lneg hF.1 hF.2.1 hd (k b hb p l e R s m args below meth c H locs cells slots Q D tI tZ tG ad A ls hF hP hS hl hX)
theorem e_i2l {x : Int32} (hd : decode cc pc = .ok (.i2l, 1)) (k : Ev sc wr own cc ret dp (pc + 1) L (.long x.toInt64 :: st) M o) : Ev sc wr own cc ret dp pc L (.int x :: st) M o := by
  intro b hb p l e R s m args below meth c H locs cells slots Q D tI tZ tG ad A ls hF hP hS hl hX
  exact lv_i2l hF.1 hF.2.1 hd rfl (k b hb p l e R s m args below meth c H locs cells slots Q D tI tZ tG ad A ls hF hP hS hl hX)
theorem e_l2i {x : Int64} (hd : decode cc pc = .ok (.l2i, 1)) (k : Ev sc wr own cc ret dp (pc + 1) L (.int x.toInt32 :: st) M o) : Ev sc wr own cc ret dp pc L (.long x :: st) M o := by
  intro b hb p l e R s m args below meth c H locs cells slots Q D tI tZ tG ad A ls hF hP hS hl hX
  exact lv_l2i hF.1 hF.2.1 hd rfl (k b hb p l e R s m args below meth c H locs cells slots Q D tI tZ tG ad A ls hF hP hS hl hX)
theorem e_lcmp {x y : Int64} (hd : decode cc pc = .ok (.lcmp, 1)) (k : Ev sc wr own cc ret dp (pc + 1) L (.int (lg_cmp x y) :: st) M o) : Ev sc wr own cc ret dp pc L (.long y :: .long x :: st) M o := by
  intro b hb p l e R s m args below meth c H locs cells slots Q D tI tZ tG ad A ls hF hP hS hl hX
  exact W.lcmp hF.1 hF.2.1 hd (k b hb p l e R s m args below meth c H locs cells slots Q D tI tZ tG ad A ls hF hP hS hl hX)
theorem e_ldc {i : Nat} {v : Int32} (hd : decode cc pc = .ok (.ldc i, 2)) (hc : Jvm.Cond.constant own i v ∈ lw_good) (k : Ev sc wr own cc ret dp (pc + 2) L (.int v :: st) M o) : Ev sc wr own cc ret dp pc L st M o := by
  intro b hb p l e R s m args below meth c H locs cells slots Q D tI tZ tG ad A ls hF hP hS hl hX
  exact lv_ldc hF.1 hF.2.1 hF.2.2.2.1 (hF.2.2.2.2.1 _ hc) hd (k b hb p l e R s m args below meth c H locs cells slots Q D tI tZ tG ad A ls hF hP hS hl hX)
theorem e_ldcw {i : Nat} {v : Int32} (hd : decode cc pc = .ok (.ldc_w i, 3)) (hc : Jvm.Cond.constant own i v ∈ lw_good) (k : Ev sc wr own cc ret dp (pc + 3) L (.int v :: st) M o) : Ev sc wr own cc ret dp pc L st M o := by
  intro b hb p l e R s m args below meth c H locs cells slots Q D tI tZ tG ad A ls hF hP hS hl hX
  exact lv_ldcw hF.1 hF.2.1 hF.2.2.2.1 (hF.2.2.2.2.1 _ hc) hd (k b hb p l e R s m args below meth c H locs cells slots Q D tI tZ tG ad A ls hF hP hS hl hX)
theorem e_ldc2 {i : Nat} {v : Int64} (hd : decode cc pc = .ok (.ldc2_w i, 3)) (hc : Jvm.Cond.constantLong own i v ∈ lw_good) (k : Ev sc wr own cc ret dp (pc + 3) L (.long v :: st) M o) : Ev sc wr own cc ret dp pc L st M o := by
  intro b hb p l e R s m args below meth c H locs cells slots Q D tI tZ tG ad A ls hF hP hS hl hX
  exact lv_ldc2 hF.1 hF.2.1 hF.2.2.2.1 (hF.2.2.2.2.1 _ hc) hd (k b hb p l e R s m args below meth c H locs cells slots Q D tI tZ tG ad A ls hF hP hS hl hX)
theorem e_idiv {x y : Int32} (hd : decode cc pc = .ok (.idiv, 1)) (k : Ev sc wr own cc ret dp (pc + 1) L (.int (x / y) :: st) M o) : Ev sc wr own cc ret dp pc L (.int y :: .int x :: st) M (if y = 0 then none else o) := by
  intro b hb p l e R s m args below meth c H locs cells slots Q D tI tZ tG ad A ls hF hP hS hl hX
  by_cases h0 : y = 0
  · rw [if_pos h0] at hb; cases hb
  · rw [if_neg h0] at hb
    exact lv_idiv hF.1 hF.2.1 hd h0 (k b hb p l e R s m args below meth c H locs cells slots Q D tI tZ tG ad A ls hF hP hS hl hX)
theorem e_idiv' {x y : Int32} (hd : decode cc pc = .ok (.idiv, 1)) (h0 : ¬ y = 0) (k : Ev sc wr own cc ret dp (pc + 1) L (.int (x / y) :: st) M o) : Ev sc wr own cc ret dp pc L (.int y :: .int x :: st) M o := by
  intro b hb p l e R s m args below meth c H locs cells slots Q D tI tZ tG ad A ls hF hP hS hl hX
  exact lv_idiv hF.1 hF.2.1 hd h0 (k b hb p l e R s m args below meth c H locs cells slots Q D tI tZ tG ad A ls hF hP hS hl hX)
theorem e_irem {x y : Int32} (hd : decode cc pc = .ok (.irem, 1)) (k : Ev sc wr own cc ret dp (pc + 1) L (.int (x - x / y * y) :: st) M o) : Ev sc wr own cc ret dp pc L (.int y :: .int x :: st) M (if y = 0 then none else o) := by
  intro b hb p l e R s m args below meth c H locs cells slots Q D tI tZ tG ad A ls hF hP hS hl hX
  by_cases h0 : y = 0
  · rw [if_pos h0] at hb; cases hb
  · rw [if_neg h0] at hb
    exact lv_irem hF.1 hF.2.1 hd h0 (k b hb p l e R s m args below meth c H locs cells slots Q D tI tZ tG ad A ls hF hP hS hl hX)
theorem e_irem' {x y : Int32} (hd : decode cc pc = .ok (.irem, 1)) (h0 : ¬ y = 0) (k : Ev sc wr own cc ret dp (pc + 1) L (.int (x - x / y * y) :: st) M o) : Ev sc wr own cc ret dp pc L (.int y :: .int x :: st) M o := by
  intro b hb p l e R s m args below meth c H locs cells slots Q D tI tZ tG ad A ls hF hP hS hl hX
  exact lv_irem hF.1 hF.2.1 hd h0 (k b hb p l e R s m args below meth c H locs cells slots Q D tI tZ tG ad A ls hF hP hS hl hX)
theorem e_ldiv {x y : Int64} (hd : decode cc pc = .ok (.ldiv, 1)) (k : Ev sc wr own cc ret dp (pc + 1) L (.long (x / y) :: st) M o) : Ev sc wr own cc ret dp pc L (.long y :: .long x :: st) M (if y = 0 then none else o) := by
  intro b hb p l e R s m args below meth c H locs cells slots Q D tI tZ tG ad A ls hF hP hS hl hX
  by_cases h0 : y = 0
  · rw [if_pos h0] at hb; cases hb
  · rw [if_neg h0] at hb
    exact lv_ldiv hF.1 hF.2.1 hd h0 (k b hb p l e R s m args below meth c H locs cells slots Q D tI tZ tG ad A ls hF hP hS hl hX)
theorem e_ldiv' {x y : Int64} (hd : decode cc pc = .ok (.ldiv, 1)) (h0 : ¬ y = 0) (k : Ev sc wr own cc ret dp (pc + 1) L (.long (x / y) :: st) M o) : Ev sc wr own cc ret dp pc L (.long y :: .long x :: st) M o := by
  intro b hb p l e R s m args below meth c H locs cells slots Q D tI tZ tG ad A ls hF hP hS hl hX
  exact lv_ldiv hF.1 hF.2.1 hd h0 (k b hb p l e R s m args below meth c H locs cells slots Q D tI tZ tG ad A ls hF hP hS hl hX)
theorem e_lrem {x y : Int64} (hd : decode cc pc = .ok (.lrem, 1)) (k : Ev sc wr own cc ret dp (pc + 1) L (.long (x - x / y * y) :: st) M o) : Ev sc wr own cc ret dp pc L (.long y :: .long x :: st) M (if y = 0 then none else o) := by
  intro b hb p l e R s m args below meth c H locs cells slots Q D tI tZ tG ad A ls hF hP hS hl hX
  by_cases h0 : y = 0
  · rw [if_pos h0] at hb; cases hb
  · rw [if_neg h0] at hb
    exact lv_lrem hF.1 hF.2.1 hd h0 (k b hb p l e R s m args below meth c H locs cells slots Q D tI tZ tG ad A ls hF hP hS hl hX)
theorem e_lrem' {x y : Int64} (hd : decode cc pc = .ok (.lrem, 1)) (h0 : ¬ y = 0) (k : Ev sc wr own cc ret dp (pc + 1) L (.long (x - x / y * y) :: st) M o) : Ev sc wr own cc ret dp pc L (.long y :: .long x :: st) M o := by
  intro b hb p l e R s m args below meth c H locs cells slots Q D tI tZ tG ad A ls hF hP hS hl hX
  exact lv_lrem hF.1 hF.2.1 hd h0 (k b hb p l e R s m args below meth c H locs cells slots Q D tI tZ tG ad A ls hF hP hS hl hX)
theorem e_dup {v : Value} (hd : decode cc pc = .ok (.dup, 1)) (hv : v.category = 1) (k : Ev sc wr own cc ret dp (pc + 1) L (v :: v :: st) M o) : Ev sc wr own cc ret dp pc L (v :: st) M o := by
  intro b hb p l e R s m args below meth c H locs cells slots Q D tI tZ tG ad A ls hF hP hS hl hX
  exact lv_dup hF.1 hF.2.1 hd ((cv_cat ad v).trans hv) (k b hb p l e R s m args below meth c H locs cells slots Q D tI tZ tG ad A ls hF hP hS hl hX)
theorem e_dup2 {v u : Value} (hd : decode cc pc = .ok (.dup2, 1)) (hv : v.category = 1) (hu : u.category = 1) (k : Ev sc wr own cc ret dp (pc + 1) L (v :: u :: v :: u :: st) M o) : Ev sc wr own cc ret dp pc L (v :: u :: st) M o := by
  intro b hb p l e R s m args below meth c H locs cells slots Q D tI tZ tG ad A ls hF hP hS hl hX
  exact lv_dup2_11 hF.1 hF.2.1 hd ((cv_cat ad v).trans hv) ((cv_cat ad u).trans hu) (k b hb p l e R s m args below meth c H locs cells slots Q D tI tZ tG ad A ls hF hP hS hl hX)
theorem e_goto {off : Int} (tgt : Nat) (hd : decode cc pc = .ok (.goto off, 3)) (ht : (pc : Int) + off = (tgt : Int)) (k : Ev sc wr own cc ret dp tgt L st M o) : Ev sc wr own cc ret dp pc L st M o := by
  intro b hb p l e R s m args below meth c H locs cells slots Q D tI tZ tG ad A ls hF hP hS hl hX
  exact lv_goto hF.1 hF.2.1 hd ht (k b hb p l e R s m args below meth c H locs cells slots Q D tI tZ tG ad A ls hF hP hS hl hX)
theorem e_if_eq {x : Int32} {off : Int} (tgt : Nat) (hd : decode cc pc = .ok (.ifCond .eq off, 3)) (ht : (pc : Int) + off = (tgt : Int)) (k1 : x = 0 → Ev sc wr own cc ret dp tgt L st M o1) (k2 : ¬ x = 0 → Ev sc wr own cc ret dp (pc + 3) L st M o2) : Ev sc wr own cc ret dp pc L (.int x :: st) M (if x = 0 then o1 else o2) := by
  intro b hb p l e R s m args below meth c H locs cells slots Q D tI tZ tG ad A ls hF hP hS hl hX
  refine lv_if_eq hF.1 hF.2.1 hd ht (fun h => ?_) (fun h => ?_)
  · rw [if_pos h] at hb
    exact k1 h b hb p l e R s m args below meth c H locs cells slots Q D tI tZ tG ad A ls hF hP hS hl hX
  · rw [if_neg h] at hb
    exact k2 h b hb p l e R s m args below meth c H locs cells slots Q D tI tZ tG ad A ls hF hP hS hl hX
theorem e_icmp_eq {x y : Int32} {off : Int} (tgt : Nat) (hd : decode cc pc = .ok (.if_icmp .eq off, 3)) (ht : (pc : Int) + off = (tgt : Int)) (k1 : x = y → Ev sc wr own cc ret dp tgt L st M o1) (k2 : ¬ x = y → Ev sc wr own cc ret dp (pc + 3) L st M o2) : Ev sc wr own cc ret dp pc L (.int y :: .int x :: st) M (if x = y then o1 else o2) := by
  intro b hb p l e R s m args below meth c H locs cells slots Q D tI tZ tG ad A ls hF hP hS hl hX
  refine lv_icmp_eq hF.1 hF.2.1 hd ht (fun h => ?_) (fun h => ?_)
  · rw [if_pos h] at hb
    exact k1 h b hb p l e R s m args below meth c H locs cells slots Q D tI tZ tG ad A ls hF hP hS hl hX
  · rw [if_neg h] at hb
    exact k2 h b hb p l e R s m args below meth c H locs cells slots Q D tI tZ tG ad A ls hF hP hS hl hX
theorem e_if_ne {x : Int32} {off : Int} (tgt : Nat) (hd : decode cc pc = .ok (.ifCond .ne off, 3)) (ht : (pc : Int) + off = (tgt : Int)) (k1 : x = 0 → Ev sc wr own cc ret dp (pc + 3) L st M o1) (k2 : ¬ x = 0 → Ev sc wr own cc ret dp tgt L st M o2) : Ev sc wr own cc ret dp pc L (.int x :: st) M (if x = 0 then o1 else o2) := by
  intro b hb p l e R s m args below meth c H locs cells slots Q D tI tZ tG ad A ls hF hP hS hl hX
  refine lv_if_ne hF.1 hF.2.1 hd ht (fun h => ?_) (fun h => ?_)
  · rw [if_neg h] at hb
    exact k2 h b hb p l e R s m args below meth c H locs cells slots Q D tI tZ tG ad A ls hF hP hS hl hX
  · rw [if_pos h] at hb
    exact k1 h b hb p l e R s m args below meth c H locs cells slots Q D tI tZ tG ad A ls hF hP hS hl hX
theorem e_icmp_ne {x y : Int32} {off : Int} (tgt : Nat) (hd : decode cc pc = .ok (.if_icmp .ne off, 3)) (ht : (pc : Int) + off = (tgt : Int)) (k1 : x = y → Ev sc wr own cc ret dp (pc + 3) L st M o1) (k2 : ¬ x = y → Ev sc wr own cc ret dp tgt L st M o2) : Ev sc wr own cc ret dp pc L (.int y :: .int x :: st) M (if x = y then o1 else o2) := by
  intro b hb p l e R s m args below meth c H locs cells slots Q D tI tZ tG ad A ls hF hP hS hl hX
  refine lv_icmp_ne hF.1 hF.2.1 hd ht (fun h => ?_) (fun h => ?_)
  · rw [if_neg h] at hb
    exact k2 h b hb p l e R s m args below meth c H locs cells slots Q D tI tZ tG ad A ls hF hP hS hl hX
  · rw [if_pos h] at hb
    exact k1 h b hb p l e R s m args below meth c H locs cells slots Q D tI tZ tG ad A ls hF hP hS hl hX
theorem e_if_lt {x : Int32} {off : Int} (tgt : Nat) (hd : decode cc pc = .ok (.ifCond .lt off, 3)) (ht : (pc : Int) + off = (tgt : Int)) (k1 : x < 0 → Ev sc wr own cc ret dp tgt L st M o1) (k2 : ¬ x < 0 → Ev sc wr own cc ret dp (pc + 3) L st M o2) : Ev sc wr own cc ret dp pc L (.int x :: st) M (if x < 0 then o1 else o2) := by
  intro b hb p l e R s m args below meth c H locs cells slots Q D tI tZ tG ad A ls hF hP hS hl hX
  refine lv_if_lt hF.1 hF.2.1 hd ht (fun h => ?_) (fun h => ?_)
  · rw [if_pos h] at hb
    exact k1 h b hb p l e R s m args below meth c H locs cells slots Q D tI tZ tG ad A ls hF hP hS hl hX
  · rw [if_neg h] at hb
    exact k2 h b hb p l e R s m args below meth c H locs cells slots Q D tI tZ tG ad A ls hF hP hS hl hX
theorem e_icmp_lt {x y : Int32} {off : Int} (tgt : Nat) (hd : decode cc pc = .ok (.if_icmp .lt off, 3)) (ht : (pc : Int) + off = (tgt : Int)) (k1 : x < y → Ev sc wr own cc ret dp tgt L st M o1) (k2 : ¬ x < y → Ev sc wr own cc ret dp (pc + 3) L st M o2) : Ev sc wr own cc ret dp pc L (.int y :: .int x :: st) M (if x < y then o1 else o2) := by
  intro b hb p l e R s m args below meth c H locs cells slots Q D tI tZ tG ad A ls hF hP hS hl hX
  refine lv_icmp_lt hF.1 hF.2.1 hd ht (fun h => ?_) (fun h => ?_)
  · rw [if_pos h] at hb
    exact k1 h b hb p l e R s m args below meth c H locs cells slots Q D tI tZ tG ad A ls hF hP hS hl hX
  · rw [if_neg h] at hb
    exact k2 h b hb p l e R s m args below meth c H locs cells slots Q D tI tZ tG ad A ls hF hP hS hl hX
theorem e_if_ge {x : Int32} {off : Int} (tgt : Nat) (hd : decode cc pc = .ok (.ifCond .ge off, 3)) (ht : (pc : Int) + off = (tgt : Int)) (k1 : 0 ≤ x → Ev sc wr own cc ret dp tgt L st M o1) (k2 : ¬ 0 ≤ x → Ev sc wr own cc ret dp (pc + 3) L st M o2) : Ev sc wr own cc ret dp pc L (.int x :: st) M (if 0 ≤ x then o1 else o2) := by
  intro b hb p l e R s m args below meth c H locs cells slots Q D tI tZ tG ad A ls hF hP hS hl hX
  refine lv_if_ge hF.1 hF.2.1 hd ht (fun h => ?_) (fun h => ?_)
  · rw [if_pos h] at hb
    exact k1 h b hb p l e R s m args below meth c H locs cells slots Q D tI tZ tG ad A ls hF hP hS hl hX
  · rw [if_neg h] at hb
    exact k2 h b hb p l e R s m args below meth c H locs cells slots Q D tI tZ tG ad A ls hF hP hS hl hX
theorem e_icmp_ge {x y : Int32} {off : Int} (tgt : Nat) (hd : decode cc pc = .ok (.if_icmp .ge off, 3)) (ht : (pc : Int) + off = (tgt : Int)) (k1 : y ≤ x → Ev sc wr own cc ret dp tgt L st M o1) (k2 : ¬ y ≤ x → Ev sc wr own cc ret dp (pc + 3) L st M o2) : Ev sc wr own cc ret dp pc L (.int y :: .int x :: st) M (if y ≤ x then o1 else o2) := by
  intro b hb p l e R s m args below meth c H locs cells slots Q D tI tZ tG ad A ls hF hP hS hl hX
  refine lv_icmp_ge hF.1 hF.2.1 hd ht (fun h => ?_) (fun h => ?_)
  · rw [if_pos h] at hb
    exact k1 h b hb p l e R s m args below meth c H locs cells slots Q D tI tZ tG ad A ls hF hP hS hl hX
  · rw [if_neg h] at hb
    exact k2 h b hb p l e R s m args below meth c H locs cells slots Q D tI tZ tG ad A ls hF hP hS hl hX
theorem e_if_gt {x : Int32} {off : Int} (tgt : Nat) (hd : decode cc pc = .ok (.ifCond .gt off, 3)) (ht : (pc : Int) + off = (tgt : Int)) (k1 : 0 < x → Ev sc wr own cc ret dp tgt L st M o1) (k2 : ¬ 0 < x → Ev sc wr own cc ret dp (pc + 3) L st M o2) : Ev sc wr own cc ret dp pc L (.int x :: st) M (if 0 < x then o1 else o2) := by
  intro b hb p l e R s m args below meth c H locs cells slots Q D tI tZ tG ad A ls hF hP hS hl hX
  refine lv_if_gt hF.1 hF.2.1 hd ht (fun h => ?_) (fun h => ?_)
  · rw [if_pos h] at hb
    exact k1 h b hb p l e R s m args below meth c H locs cells slots Q D tI tZ tG ad A ls hF hP hS hl hX
  · rw [if_neg h] at hb
    exact k2 h b hb p l e R s m args below meth c H locs cells slots Q D tI tZ tG ad A ls hF hP hS hl hX
theorem e_icmp_gt {x y : Int32} {off : Int} (tgt : Nat) (hd : decode cc pc = .ok (.if_icmp .gt off, 3)) (ht : (pc : Int) + off = (tgt : Int)) (k1 : y < x → Ev sc wr own cc ret dp tgt L st M o1) (k2 : ¬ y < x → Ev sc wr own cc ret dp (pc + 3) L st M o2) : Ev sc wr own cc ret dp pc L (.int y :: .int x :: st) M (if y < x then o1 else o2) := by
  intro b hb p l e R s m args below meth c H locs cells slots Q D tI tZ tG ad A ls hF hP hS hl hX
  refine lv_icmp_gt hF.1 hF.2.1 hd ht (fun h => ?_) (fun h => ?_)
  · rw [if_pos h] at hb
    exact k1 h b hb p l e R s m args below meth c H locs cells slots Q D tI tZ tG ad A ls hF hP hS hl hX
  · rw [if_neg h] at hb
    exact k2 h b hb p l e R s m args below meth c H locs cells slots Q D tI tZ tG ad A ls hF hP hS hl hX
theorem e_if_le {x : Int32} {off : Int} (tgt : Nat) (hd : decode cc pc = .ok (.ifCond .le off, 3)) (ht : (pc : Int) + off = (tgt : Int)) (k1 : x ≤ 0 → Ev sc wr own cc ret dp tgt L st M o1) (k2 : ¬ x ≤ 0 → Ev sc wr own cc ret dp (pc + 3) L st M o2) : Ev sc wr own cc ret dp pc L (.int x :: st) M (if x ≤ 0 then o1 else o2) := by
  intro b hb p l e R s m args below meth c H locs cells slots Q D tI tZ tG ad A ls hF hP hS hl hX
  refine lv_if_le hF.1 hF.2.1 hd ht (fun h => ?_) (fun h => ?_)
  · rw [if_pos h] at hb
    exact k1 h b hb p l e R s m args below meth c H locs cells slots Q D tI tZ tG ad A ls hF hP hS hl hX
  · rw [if_neg h] at hb
    exact k2 h b hb p l e R s m args below meth c H locs cells slots Q D tI tZ tG ad A ls hF hP hS hl hX
theorem e_icmp_le {x y : Int32} {off : Int} (tgt : Nat) (hd : decode cc pc = .ok (.if_icmp .le off, 3)) (ht : (pc : Int) + off = (tgt : Int)) (k1 : x ≤ y → Ev sc wr own cc ret dp tgt L st M o1) (k2 : ¬ x ≤ y → Ev sc wr own cc ret dp (pc + 3) L st M o2) : Ev sc wr own cc ret dp pc L (.int y :: .int x :: st) M (if x ≤ y then o1 else o2) := by
  intro b hb p l e R s m args below meth c H locs cells slots Q D tI tZ tG ad A ls hF hP hS hl hX
  refine lv_icmp_le hF.1 hF.2.1 hd ht (fun h => ?_) (fun h => ?_)
  · rw [if_pos h] at hb
    exact k1 h b hb p l e R s m args below meth c H locs cells slots Q D tI tZ tG ad A ls hF hP hS hl hX
  · rw [if_neg h] at hb
    exact k2 h b hb p l e R s m args below meth c H locs cells slots Q D tI tZ tG ad A ls hF hP hS hl hX
theorem e_istore_n {k0 : Fin 4} {x : Int32} (L' : List (Option Value)) (hd : decode cc pc = .ok (.istore_n k0, 1)) (hi : Nat.ble ((k0 : Nat) + 1) L.length = true) (hn : noL2 L (k0 : Nat) = true) (hL : L.set (k0 : Nat) (some (.int x)) = L') (k : Ev sc wr own cc ret dp (pc + 1) L' st M o) : Ev sc wr own cc ret dp pc L (.int x :: st) M o := by
  subst hL
  have hi := Nat.le_of_ble_eq_true hi
  intro b hb p l e R s m args below meth c H locs cells slots Q D tI tZ tG ad A ls hF hP hS hl hX
  exact lv_istore_n hF.1 hF.2.1 hd rfl hl.has hi rfl (fun ls' hl' => (k b hb p l e R s m args below meth c H locs cells slots Q D tI tZ tG ad A ls' (by rw [List.length_set]; exact hF) hP hS (lh_store (x := .int x) hi hn hl') hX))
theorem e_istore {i : Nat} {x : Int32} (L' : List (Option Value)) (hd : decode cc pc = .ok (.istore i, 2)) (hi : Nat.ble (i + 1) L.length = true) (hn : noL2 L i = true) (hL : L.set i (some (.int x)) = L') (k : Ev sc wr own cc ret dp (pc + 2) L' st M o) : Ev sc wr own cc ret dp pc L (.int x :: st) M o := by
  subst hL
  have hi := Nat.le_of_ble_eq_true hi
  intro b hb p l e R s m args below meth c H locs cells slots Q D tI tZ tG ad A ls hF hP hS hl hX
  exact lv_istore hF.1 hF.2.1 hd hl.has hi rfl (fun ls' hl' => (k b hb p l e R s m args below meth c H locs cells slots Q D tI tZ tG ad A ls' (by rw [List.length_set]; exact hF) hP hS (lh_store (x := .int x) hi hn hl') hX))
theorem e_lstore_n {k0 : Fin 4} {x : Int64} (L' : List (Option Value)) (hd : decode cc pc = .ok (.lstore_n k0, 1)) (hi : Nat.ble ((k0 : Nat) + 2) L.length = true) (hn : noL2 L (k0 : Nat) = true) (hL : (L.set (k0 : Nat) (some (.long x))).set ((k0 : Nat) + 1) none = L') (k : Ev sc wr own cc ret dp (pc + 1) L' st M o) : Ev sc wr own cc ret dp pc L (.long x :: st) M o := by
  subst hL
  have hi := Nat.le_of_ble_eq_true hi
  intro b hb p l e R s m args below meth c H locs cells slots Q D tI tZ tG ad A ls hF hP hS hl hX
  exact lv_lstore_n hF.1 hF.2.1 hd rfl hl.has hi rfl (fun ls' hl' => (k b hb p l e R s m args below meth c H locs cells slots Q D tI tZ tG ad A ls' (by rw [List.length_set, List.length_set]; exact hF) hP hS (lh_store2 (x := .long x) (by omega) hn hl') hX))
theorem e_lstore {i : Nat} {x : Int64} (L' : List (Option Value)) (hd : decode cc pc = .ok (.lstore i, 2)) (hi : Nat.ble (i + 2) L.length = true) (hn : noL2 L i = true) (hL : (L.set i (some (.long x))).set (i + 1) none = L') (k : Ev sc wr own cc ret dp (pc + 2) L' st M o) : Ev sc wr own cc ret dp pc L (.long x :: st) M o := by
  subst hL
  have hi := Nat.le_of_ble_eq_true hi
  intro b hb p l e R s m args below meth c H locs cells slots Q D tI tZ tG ad A ls hF hP hS hl hX
  exact lv_lstore hF.1 hF.2.1 hd hl.has hi rfl (fun ls' hl' => (k b hb p l e R s m args below meth c H locs cells slots Q D tI tZ tG ad A ls' (by rw [List.length_set, List.length_set]; exact hF) hP hS (lh_store2 (x := .long x) (by omega) hn hl') hX))
theorem e_iinc {i : Nat} {n : Int} {x : Int32} (L' : List (Option Value)) (hd : decode cc pc = .ok (.iinc i n, 3)) (hx : L[i]? = some (some (.int x))) (hi : Nat.ble (i + 1) L.length = true) (hn : noL2 L i = true) (hL : L.set i (some (.int (x + Int32.ofInt n))) = L') (k : Ev sc wr own cc ret dp (pc + 3) L' st M o) : Ev sc wr own cc ret dp pc L st M o := by
  subst hL
  have hi := Nat.le_of_ble_eq_true hi
  intro b hb p l e R s m args below meth c H locs cells slots Q D tI tZ tG ad A ls hF hP hS hl hX
  obtain ⟨j, hj⟩ := List.getElem?_of_mem (asc_mem (ad := ad) (q := (i, .int x)) |>.mpr ⟨.int x, hx, rfl⟩)
  exact lv_iinc hF.1 hF.2.1 hd hl.has hj rfl hi rfl (fun ls' hl' => (k b hb p l e R s m args below meth c H locs cells slots Q D tI tZ tG ad A ls' (by rw [List.length_set]; exact hF) hP hS (lh_store (x := .int (x + Int32.ofInt n)) hi hn hl') hX))
theorem e_lookup {dflt : Int} {ps : Array (Int × Int)} {len : Nat} {x : Int32} {off : Int} (tgt : Nat) (hd : decode cc pc = .ok (.lookupswitch dflt ps, len)) (hp : (ps.toList.zip (ps.toList.drop 1)).all (fun (a, next) => a.1 < next.1) = true) (ho : Op.lookupswitch.offset ps.toList dflt x.toInt = off) (ht : (pc : Int) + off = (tgt : Int)) (k : Ev sc wr own cc ret dp tgt L st M o) : Ev sc wr own cc ret dp pc L (.int x :: st) M o := by
  intro b hb p l e R s m args below meth c H locs cells slots Q D tI tZ tG ad A ls hF hP hS hl hX
  exact lv_lookup hF.1 hF.2.1 hd hp ho ht (k b hb p l e R s m args below meth c H locs cells slots Q D tI tZ tG ad A ls hF hP hS hl hX)
theorem e_tableOut {dflt lo hi : Int} {offs : Array Int} {len : Nat} {x : Int32} (tgt : Nat) (hd : decode cc pc = .ok (.tableswitch dflt lo hi offs, len)) (h : x.toInt < lo ∨ hi < x.toInt) (ht : (pc : Int) + dflt = (tgt : Int)) (k : Ev sc wr own cc ret dp tgt L st M o) : Ev sc wr own cc ret dp pc L (.int x :: st) M o := by
  intro b hb p l e R s m args below meth c H locs cells slots Q D tI tZ tG ad A ls hF hP hS hl hX
  exact lv_tableOut hF.1 hF.2.1 hd h ht (k b hb p l e R s m args below meth c H locs cells slots Q D tI tZ tG ad A ls hF hP hS hl hX)
theorem e_tableIn {dflt lo hi : Int} {offs : Array Int} {len : Nat} {x : Int32} {off : Int} (tgt : Nat) (hd : decode cc pc = .ok (.tableswitch dflt lo hi offs, len)) (h1 : ¬ x.toInt < lo) (h2 : ¬ hi < x.toInt) (ho : offs[(x.toInt - lo).toNat]? = some off) (ht : (pc : Int) + off = (tgt : Int)) (k : Ev sc wr own cc ret dp tgt L st M o) : Ev sc wr own cc ret dp pc L (.int x :: st) M o := by
  intro b hb p l e R s m args below meth c H locs cells slots Q D tI tZ tG ad A ls hF hP hS hl hX
  exact lv_tableIn hF.1 hF.2.1 hd h1 h2 ho ht (k b hb p l e R s m args below meth c H locs cells slots Q D tI tZ tG ad A ls hF hP hS hl hX)
theorem e_split {cnd : Prop} {dc : Decidable cnd} (k1 : cnd → Ev sc wr own cc ret dp pc L st M o1) (k2 : ¬ cnd → Ev sc wr own cc ret dp pc L st M o2) : Ev sc wr own cc ret dp pc L st M (if cnd then o1 else o2) := by
  by_cases h : cnd
  · rw [if_pos h]; exact k1 h
  · rw [if_neg h]; exact k2 h
theorem e_iret {x : Int32} {ty : FieldType} {b0 : α} (hd : decode cc pc = .ok (.ireturn, 1)) (hr : ret = some ty) (hn : narrow ty (.int x) = .int x) (hw : wr b0 = (some (.int x), M)) : Ev sc wr own cc ret dp pc L [.int x] M (some b0) := by
  intro b hb p l e R s m args below meth c H locs cells slots Q D tI tZ tG ad A ls hF hP hS hl hX
  cases hb
  rw [hw] at hX
  exact hX H locs ls pc (Or.inr (Or.inr ⟨ty, x, hr, rfl, hn⟩)) hP hS hd
theorem e_zret {x : Int32} {b0 : α} (hd : decode cc pc = .ok (.ireturn, 1)) (hr : ret = some .boolean) (hw : wr b0 = (some (.int x), M)) : Ev sc wr own cc ret dp pc L [.int x] M (if x = 0 ∨ x = 1 then some b0 else none) := by
  by_cases h : x = 0 ∨ x = 1
  · rw [if_pos h]
    exact e_iret hd hr (by rcases h with rfl | rfl <;> rfl) hw
  · rw [if_neg h]; exact e_none
theorem e_lret {x : Int64} {b0 : α} (hd : decode cc pc = .ok (.lreturn, 1)) (hr : ret = some .long) (hw : wr b0 = (some (.long x), M)) : Ev sc wr own cc ret dp pc L [.long x] M (some b0) := by
  intro b hb p l e R s m args below meth c H locs cells slots Q D tI tZ tG ad A ls hF hP hS hl hX
  cases hb
  rw [hw] at hX
  exact hX H locs ls pc (Or.inr (Or.inl ⟨x, hr, rfl⟩)) hP hS hd
theorem e_vret {b0 : α} (hd : decode cc pc = .ok (.return_, 1)) (hr : ret = none) (hw : wr b0 = (none, M)) : Ev sc wr own cc ret dp pc L [] M (some b0) := by
  intro b hb p l e R s m args below meth c H locs cells slots Q D tI tZ tG ad A ls hF hP hS hl hX
  cases hb
  rw [hw] at hX
  exact hX H locs ls pc (Or.inl ⟨hr, rfl⟩) hP hS hd
end Rules
end
section
/-- what the rules ask of a class -/
def CI (ci : Nat) (C : String) (T : u_T) (N : Nat) (ty0 : Nat → FieldType) : Prop := vwCl[ci]? = some (C, T, N) ∧ (∀ w ∈ u_ws C T N, w ∈ lw_good) ∧ (∀ k, k < N → parseFieldDescriptor (T k).2.2.1 = some (ty0 k)) ∧ (∀ a, a < N → ∀ b, b < N → a ≠ b → (T a).2.1 ≠ (T b).2.1)
def Qe (D : va_G) (tI tZ tG : ClassId) (ad : Nat → Nat) (w : Option Value × Mem) : Array Value → State → Outcome → State → Prop := fun _ st oc t => oc = .returned (w.1.map (cv ad)) ∧ va_P D vwCl (cw tI tZ tG ad w.2) t.heap ∧ va_F (Aw ad) st t
def rmD (dp : Nat) : Room := { frames := dp, cells := 0, slots := 0, locals := 34 * dp }
def PcW (D : va_G) (tI tZ tG : ClassId) (ad : Nat → Nat) (as : List Value) (M : Mem) : Array Value → State → Prop := va_Pc (as.map (cv ad)) (fun U => Wd D tI tZ tG ad (Aw ad) U ∧ va_P D vwCl (cw tI tZ tG ad M) U.heap)
def SpO {α : Type} (wr : α → Option Value × Mem) (y : MethodName) (c1 : ByteArray) (nL : Nat) (ret : Option FieldType) (dp : Nat) (as : List Value) (M : Mem) (o : Option α) : Prop :=
  ∀ b, o = some b → ∀ (l : Launch) (D : va_G) (tI tZ tG : ClassId) (ad : Nat → Nat), Met l y (Cond.code y c1 nL ret :: lw_good) (rmD dp) (PcW D tI tZ tG ad as M) (Qe D tI tZ tG ad (wr b)) 0 0 (Aw ad)
section Heap
variable {α : Type} {sc : Option (Nat × (Nat → Int32))} {wr : α → Option Value × Mem} {own : String} {cc : ByteArray} {ret : Option FieldType} {dp pc : Nat} {L : List (Option Value)} {st : List Value} {M : Mem} {o o1 o2 : Option α}
theorem e_getI {k ci N j idx n0 : Nat} {C : String} {T : u_T} {ty0 : Nat → FieldType} {rs : List (Option Nat)} (h : CI ci C T N ty0) (hd : decode cc pc = .ok (.getfield idx, 3)) (hq : shl[k]? = some (ci + 3, n0, rs)) (hj : j < N) (hr : rs[j]? = some none) (hw : Cond.fieldLink own idx (T j).1 (T j).2.1 (T j).2.2.1 ∈ lw_good) {v : Int32} (hv : M k j = v) (kk : Ev sc wr own cc ret dp (pc + 3) L (.int v :: st) M o) : Ev sc wr own cc ret dp pc L (.ref k :: st) M o := by
  subst hv
  intro b hb p l e R s m args below meth c H locs cells slots Q D tI tZ tG ad A ls hF hP hS hl hX
  exact va_get (v := .int (M k j)) hF.1 hF.2.1 hF.2.2.2.2.1 h.2.1 hF.2.2.2.1 hF.2.2.2.2.2.2.1.1 hP k (cw_get hq) h.1 j hj (hF.2.2.2.2.1 _ hw) (fun _ h => h) (by rw [List.getElem?_mapIdx, hr]; rfl) hd (kk b hb p l e R s m args below meth c H locs cells slots Q D tI tZ tG ad A ls hF hP hS hl hX)
theorem e_getR {k ci N j idx n0 r : Nat} {C : String} {T : u_T} {ty0 : Nat → FieldType} {rs : List (Option Nat)} (h : CI ci C T N ty0) (hd : decode cc pc = .ok (.getfield idx, 3)) (hq : shl[k]? = some (ci + 3, n0, rs)) (hj : j < N) (hr : rs[j]? = some (some r)) (hw : Cond.fieldLink own idx (T j).1 (T j).2.1 (T j).2.2.1 ∈ lw_good) (kk : Ev sc wr own cc ret dp (pc + 3) L (.ref r :: st) M o) : Ev sc wr own cc ret dp pc L (.ref k :: st) M o := by
  intro b hb p l e R s m args below meth c H locs cells slots Q D tI tZ tG ad A ls hF hP hS hl hX
  exact va_get (v := .ref (ad r)) hF.1 hF.2.1 hF.2.2.2.2.1 h.2.1 hF.2.2.2.1 hF.2.2.2.2.2.2.1.1 hP k (cw_get hq) h.1 j hj (hF.2.2.2.2.1 _ hw) (fun _ h => h) (by rw [List.getElem?_mapIdx, hr]; rfl) hd (kk b hb p l e R s m args below meth c H locs cells slots Q D tI tZ tG ad A ls hF hP hS hl hX)
theorem e_putI {k ci N j idx n0 : Nat} {x : Int32} {C : String} {T : u_T} {ty0 : Nat → FieldType} {ty : FieldType} {rs : List (Option Nat)} (h : CI ci C T N ty0) (hd : decode cc pc = .ok (.putfield idx, 3)) (hq : shl[k]? = some (ci + 3, n0, rs)) (hj : j < N) (hr : rs[j]? = some none) (hw : Cond.fieldLink own idx (T j).1 (T j).2.1 (T j).2.2.1 ∈ lw_good) (hf : (T j).2.2.2 = false) (hty : parseFieldDescriptor (T j).2.2.1 = some ty) (hn : narrow ty (.int x) = .int x) (hfit : fits ty (.int x) = true) (kk : Ev sc wr own cc ret dp (pc + 3) L st (up2 M k j x) o) : Ev sc wr own cc ret dp pc L (.int x :: .ref k :: st) M o := by
  intro b hb p l e R s m args below meth c H locs cells slots Q D tI tZ tG ad A ls hF hP hS hl hX
  have hW := hF.2.2.2.2.2.2.1
  refine va_put (v := .int x) hF.1 hF.2.1 hF.2.2.2.2.1 h.2.1 ty0 h.2.2.1 h.2.2.2 hF.2.2.2.1 hW.1 hP (cw_D hW.2.1 hW.2.2.1 M) hS k (cw_get hq) h.1 j hj (hF.2.2.2.2.1 _ hw) (fun _ h => h) hf hty hn hfit (by rw [List.length_mapIdx]; exact (List.getElem?_eq_some_iff.mp hr).1) hd (fun H1 locs1 hP1 _ hS1 => ?_)
  rw [ce_setI (tI := tI) (tZ := tZ) (tG := tG) (n := n0) hr, cw_set hq] at hP1
  exact kk b hb p l e R s m args below meth c H1 locs1 cells slots Q D tI tZ tG ad A ls hF hP1 hS1 hl hX
theorem e_iald' {k n : Nat} {i : Int32} {rs : List (Option Nat)} (hd : decode cc pc = .ok (.iaload, 1)) (hq : shl[k]? = some (0, n, rs)) (hi : inb i n = true) {v : Int32} (hv : M k (ix i) = v) (kk : Ev sc wr own cc ret dp (pc + 1) L (.int v :: st) M o) : Ev sc wr own cc ret dp pc L (.int i :: .ref k :: st) M o := by
  subst hv
  intro b hb p l e R s m args below meth c H locs cells slots Q D tI tZ tG ad A ls hF hP hS hl hX
  exact va_iald hF.1 hF.2.1 hF.2.2.2.2.2.2.1.1 hP k 0 (cw_get hq) rfl (inb_in hi) hd (kk b hb p l e R s m args below meth c H locs cells slots Q D tI tZ tG ad A ls hF hP hS hl hX)
theorem e_if {t : Bool} (kk : t = true → Ev sc wr own cc ret dp pc L st M o) : Ev sc wr own cc ret dp pc L st M (if t then o else none) := by
  cases t with
  | true => exact kk rfl
  | false => exact e_none
theorem e_iast' {k n : Nat} {i x : Int32} {rs : List (Option Nat)} (hd : decode cc pc = .ok (.iastore, 1)) (hq : shl[k]? = some (0, n, rs)) (hi : inb i n = true) (kk : Ev sc wr own cc ret dp (pc + 1) L st (up2 M k (ix i) x) o) : Ev sc wr own cc ret dp pc L (.int x :: .int i :: .ref k :: st) M o := by
  intro b hb p l e R s m args below meth c H locs cells slots Q D tI tZ tG ad A ls hF hP hS hl hX
  have hW := hF.2.2.2.2.2.2.1
  refine va_iast hF.1 hF.2.1 hW.1 hP (cw_D hW.2.1 hW.2.2.1 M) hS k 0 (cw_get hq) rfl (inb_in hi) hd (fun H1 locs1 hP1 _ hS1 => ?_)
  have e1 := cw_set (tI := tI) (tZ := tZ) (tG := tG) (ad := ad) (M := M) hq (upd (M k) (ix i) x)
  rw [← up2] at e1
  exact kk b hb p l e R s m args below meth c H1 locs1 cells slots Q D tI tZ tG ad A ls hF (e1 ▸ hP1) hS1 hl hX
theorem e_zald' {k n : Nat} {i : Int32} {rs : List (Option Nat)} (hd : decode cc pc = .ok (.baload, 1)) (hq : shl[k]? = some (1, n, rs)) (hi : inb i n = true) {v : Int32} (hv : M k (ix i) = v) (kk : Ev sc wr own cc ret dp (pc + 1) L (.int v :: st) M o) : Ev sc wr own cc ret dp pc L (.int i :: .ref k :: st) M o := by
  subst hv
  intro b hb p l e R s m args below meth c H locs cells slots Q D tI tZ tG ad A ls hF hP hS hl hX
  exact va_zald hF.1 hF.2.1 hF.2.2.2.2.2.2.1.1 hP k 1 (cw_get hq) rfl (inb_in hi) hd (kk b hb p l e R s m args below meth c H locs cells slots Q D tI tZ tG ad A ls hF hP hS hl hX)
theorem e_zast' {k n : Nat} {i x : Int32} {rs : List (Option Nat)} (hd : decode cc pc = .ok (.bastore, 1)) (hq : shl[k]? = some (1, n, rs)) (hi : inb i n = true) (hx : vp_nar .boolean x = x) (kk : Ev sc wr own cc ret dp (pc + 1) L st (up2 M k (ix i) x) o) : Ev sc wr own cc ret dp pc L (.int x :: .int i :: .ref k :: st) M o := by
  intro b hb p l e R s m args below meth c H locs cells slots Q D tI tZ tG ad A ls hF hP hS hl hX
  have hW := hF.2.2.2.2.2.2.1
  refine va_zast hF.1 hF.2.1 hW.1 hP (cw_D hW.2.1 hW.2.2.1 M) hS k 1 (cw_get hq) rfl (inb_in hi) hd (fun H1 locs1 hP1 _ hS1 => ?_)
  rw [hx] at hP1
  have e1 := cw_set (tI := tI) (tZ := tZ) (tG := tG) (ad := ad) (M := M) hq (upd (M k) (ix i) x)
  rw [← up2] at e1
  exact kk b hb p l e R s m args below meth c H1 locs1 cells slots Q D tI tZ tG ad A ls hF (e1 ▸ hP1) hS1 hl hX
theorem e_aald {k n r : Nat} {i : Int32} {rs : List (Option Nat)} (hd : decode cc pc = .ok (.aaload, 1)) (hq : shl[k]? = some (2, n, rs)) (hi : inb i n = true) (hr : rs.getD (ix i) none = some r) (kk : Ev sc wr own cc ret dp (pc + 1) L (.ref r :: st) M o) : Ev sc wr own cc ret dp pc L (.int i :: .ref k :: st) M o := by
  intro b hb p l e R s m args below meth c H locs cells slots Q D tI tZ tG ad A ls hF hP hS hl hX
  refine va_aldq hF.1 hF.2.1 hF.2.2.2.2.2.2.1.1 hP k 2 (cw_get hq) rfl (inb_in hi) hd ?_
  rw [hr]
  exact kk b hb p l e R s m args below meth c H locs cells slots Q D tI tZ tG ad A ls hF hP hS hl hX
theorem e_len {k n : Nat} {v : Int32} {rs : List (Option Nat)} (hd : decode cc pc = .ok (.arraylength, 1)) (hq : shl[k]? = some (0, n, rs)) (hv : Int32.ofNat n = v) (kk : Ev sc wr own cc ret dp (pc + 1) L (.int v :: st) M o) : Ev sc wr own cc ret dp pc L (.ref k :: st) M o := by
  intro b hb p l e R s m args below meth c H locs cells slots Q D tI tZ tG ad A ls hF hP hS hl hX
  exact va_alen hF.1 hF.2.1 hF.2.2.2.2.2.2.1.1 hP k 0 (cw_get hq) rfl hv hd (kk b hb p l e R s m args below meth c H locs cells slots Q D tI tZ tG ad A ls hF hP hS hl hX)
theorem e_iaT' {i : Int32} (hd : decode cc pc = .ok (.iaload, 1)) (hi : inb i 10 = true) (kk : Ev sc wr own cc ret dp (pc + 1) L (.int (tensF (ix i)) :: st) M o) : Ev sc wr own cc ret dp pc L (.int i :: .ref 75 :: st) M o := by
  intro b hb p l e R s m args below meth c H locs cells slots Q D tI tZ tG ad A ls hF hP hS hl hX
  exact va_ti hF.1 hF.2.1 hF.2.2.2.2.2.2.1.2.2.2.1.2 hS (inb_in hi) rfl hd (kk b hb p l e R s m args below meth c H locs cells slots Q D tI tZ tG ad A ls hF hP hS hl hX)
theorem e_iaY' {i : Int32} (hd : decode cc pc = .ok (.iaload, 1)) (hi : inb i 8 = true) (kk : Ev sc wr own cc ret dp (pc + 1) L (.int (signF (ix i)) :: st) M o) : Ev sc wr own cc ret dp pc L (.int i :: .ref 76 :: st) M o := by
  intro b hb p l e R s m args below meth c H locs cells slots Q D tI tZ tG ad A ls hF hP hS hl hX
  exact va_ti hF.1 hF.2.1 hF.2.2.2.2.2.2.1.2.2.2.2.1.2 hS (inb_in hi) rfl hd (kk b hb p l e R s m args below meth c H locs cells slots Q D tI tZ tG ad A ls hF hP hS hl hX)
theorem e_lenY (hd : decode cc pc = .ok (.arraylength, 1)) (kk : Ev sc wr own cc ret dp (pc + 1) L (.int 8 :: st) M o) : Ev sc wr own cc ret dp pc L (.ref 76 :: st) M o := by
  intro b hb p l e R s m args below meth c H locs cells slots Q D tI tZ tG ad A ls hF hP hS hl hX
  exact va_tlen hF.1 hF.2.1 hF.2.2.2.2.2.2.1.2.2.2.2.1.2 hS rfl hd (kk b hb p l e R s m args below meth c H locs cells slots Q D tI tZ tG ad A ls hF hP hS hl hX)
theorem e_getsT {idx : Nat} (hd : decode cc pc = .ok (.getstatic idx, 3)) (hw : Cond.fieldLink own idx RX9 "TENS" "[I" ∈ lw_good) (kk : Ev sc wr own cc ret dp (pc + 3) L (.ref 75 :: st) M o) : Ev sc wr own cc ret dp pc L st M o := by
  intro b hb p l e R s m args below meth c H locs cells slots Q D tI tZ tG ad A ls hF hP hS hl hX
  exact va_gets hF.1 hF.2.1 hF.2.2.2.2.2.2.1.2.2.2.1.1 hS hF.2.2.2.1 (hF.2.2.2.2.1 _ hw) (fun _ h => h) hd (kk b hb p l e R s m args below meth c H locs cells slots Q D tI tZ tG ad A ls hF hP hS hl hX)
theorem e_getsTN {idx : Nat} {host : String} (hd : decode cc pc = .ok (.getstatic idx, 3)) (hw : Cond.fieldLinkNest own idx RX9 "TENS" "[I" host ∈ lw_nest) (kk : Ev sc wr own cc ret dp (pc + 3) L (.ref 75 :: st) M o) : Ev sc wr own cc ret dp pc L st M o := by
  intro b hb p l e R s m args below meth c H locs cells slots Q D tI tZ tG ad A ls hF hP hS hl hX
  exact va_getsN hF.1 hF.2.1 hF.2.2.2.2.2.2.1.2.2.2.1.1 hS hF.2.2.2.1 (va_Nw.use (nest_on hw) (hF.2.2.2.2.2.2.1.2.2.2.2.2 _ hw)) (fun _ h => h) hd (kk b hb p l e R s m args below meth c H locs cells slots Q D tI tZ tG ad A ls hF hP hS hl hX)
theorem e_getsYN {idx : Nat} {host : String} (hd : decode cc pc = .ok (.getstatic idx, 3)) (hw : Cond.fieldLinkNest own idx RX9 "YEAR_SIGNS" "[I" host ∈ lw_nest) (kk : Ev sc wr own cc ret dp (pc + 3) L (.ref 76 :: st) M o) : Ev sc wr own cc ret dp pc L st M o := by
  intro b hb p l e R s m args below meth c H locs cells slots Q D tI tZ tG ad A ls hF hP hS hl hX
  exact va_getsN hF.1 hF.2.1 hF.2.2.2.2.2.2.1.2.2.2.2.1.1 hS hF.2.2.2.1 (va_Nw.use (nest_on hw) (hF.2.2.2.2.2.2.1.2.2.2.2.2 _ hw)) (fun _ h => h) hd (kk b hb p l e R s m args below meth c H locs cells slots Q D tI tZ tG ad A ls hF hP hS hl hX)
theorem e_iaS' {i : Int32} {n : Nat} {f : Nat → Int32} (hd : decode cc pc = .ok (.iaload, 1)) (hi : inb i n = true) (kk : Ev (some (n, f)) wr own cc ret dp (pc + 1) L (.int (f (ix i)) :: st) M o) : Ev (some (n, f)) wr own cc ret dp pc L (.int i :: .ref 77 :: st) M o := by
  intro b hb p l e R s m args below meth c H locs cells slots Q D tI tZ tG ad A ls hF hP hS hl hX
  obtain ⟨h1, h2, h3⟩ := hF.2.2.2.2.2.2.2 n f rfl
  exact va_sld hF.1 hF.2.1 h1 h2 h3 hS (inb_in hi) hd (kk b hb p l e R s m args below meth c H locs cells slots Q D tI tZ tG ad A ls hF hP hS hl hX)
theorem e_lenS {n : Nat} {f : Nat → Int32} (hd : decode cc pc = .ok (.arraylength, 1)) (kk : Ev (some (n, f)) wr own cc ret dp (pc + 1) L (.int (nI n) :: st) M o) : Ev (some (n, f)) wr own cc ret dp pc L (.ref 77 :: st) M o := by
  intro b hb p l e R s m args below meth c H locs cells slots Q D tI tZ tG ad A ls hF hP hS hl hX
  obtain ⟨h1, h2, h3⟩ := hF.2.2.2.2.2.2.2 n f rfl
  exact va_slen hF.1 hF.2.1 h1 h2 h3 hS hd (kk b hb p l e R s m args below meth c H locs cells slots Q D tI tZ tG ad A ls hF hP hS hl hX)
def MathOK (y : MethodName) (c1 : ByteArray) (ret1 : Option FieldType) : Prop := Cond.static y ∈ lw_good ∧ Cond.initialized "java/lang/Math" ∈ lw_good ∧ Cond.code y c1 2 ret1 ∈ lw_good
theorem catsum (ad : Nat → Nat) (st : List Value) : ((st.map (cv ad)).map fun v => v.category).sum = (st.map fun v => v.category).sum := by
  rw [List.map_map]
  congr 1
  apply List.map_congr_left
  intro v _
  exact cv_cat ad v
theorem e_min {x y : Int32} {idx : Nat} (ok : MathOK Lib.Math.min.name Lib.Math.min.code (some .int)) (hd : decode cc pc = .ok (.invokestatic idx, 3)) (hw : Cond.methodLink own idx Lib.Math.min.name ∈ lw_good) (hs0 : Nat.ble (st.map fun v => v.category).sum 8 = true) (hdp : 1 ≤ dp) (kk : Ev sc wr own cc ret dp (pc + 3) L (.int (if y < x then y else x) :: st) M o) : Ev sc wr own cc ret dp pc L (.int y :: .int x :: st) M o := by
  have hs := Nat.le_of_ble_eq_true hs0
  intro b hb p l e R s m args below meth c H locs cells slots Q D tI tZ tG ad A ls hF hP hS hl hX
  have hg := hF.2.2.2.2.1
  obtain ⟨r1, r2, r3, r4⟩ := hF.2.2.2.2.2.1
  exact va_mmin hF.1 hF.2.1 (hF.2.2.1.trans hl.1.symm) hF.2.2.2.1 (hg _ hw) (hg _ ok.1) (hg _ ok.2.1) (hg _ ok.2.2) (by omega) (by rw [catsum]; omega) r3 r4 hd (kk b hb p l e R s m args below meth c H locs cells slots Q D tI tZ tG ad A ls hF hP hS hl hX)
theorem e_max {x y : Int32} {idx : Nat} (ok : MathOK Lib.Math.max.name Lib.Math.max.code (some .int)) (hd : decode cc pc = .ok (.invokestatic idx, 3)) (hw : Cond.methodLink own idx Lib.Math.max.name ∈ lw_good) (hs0 : Nat.ble (st.map fun v => v.category).sum 8 = true) (hdp : 1 ≤ dp) (kk : Ev sc wr own cc ret dp (pc + 3) L (.int (if x < y then y else x) :: st) M o) : Ev sc wr own cc ret dp pc L (.int y :: .int x :: st) M o := by
  have hs := Nat.le_of_ble_eq_true hs0
  intro b hb p l e R s m args below meth c H locs cells slots Q D tI tZ tG ad A ls hF hP hS hl hX
  have hg := hF.2.2.2.2.1
  obtain ⟨r1, r2, r3, r4⟩ := hF.2.2.2.2.2.1
  exact va_mmax hF.1 hF.2.1 (hF.2.2.1.trans hl.1.symm) hF.2.2.2.1 (hg _ hw) (hg _ ok.1) (hg _ ok.2.1) (hg _ ok.2.2) (by omega) (by rw [catsum]; omega) r3 r4 hd (kk b hb p l e R s m args below meth c H locs cells slots Q D tI tZ tG ad A ls hF hP hS hl hX)
theorem e_absl {x : Int64} {idx : Nat} (ok : MathOK Lib.MathLoose.abs_long.x Lib.MathLoose.abs_long.code (some .long)) (hd : decode cc pc = .ok (.invokestatic idx, 3)) (hw : Cond.methodLink own idx Lib.MathLoose.abs_long.x ∈ lw_good) (hs0 : Nat.ble (st.map fun v => v.category).sum 8 = true) (hdp : 1 ≤ dp) (kk : Ev sc wr own cc ret dp (pc + 3) L (.long (if 0 < x then x else -x) :: st) M o) : Ev sc wr own cc ret dp pc L (.long x :: st) M o := by
  have hs := Nat.le_of_ble_eq_true hs0
  intro b hb p l e R s m args below meth c H locs cells slots Q D tI tZ tG ad A ls hF hP hS hl hX
  have hg := hF.2.2.2.2.1
  obtain ⟨r1, r2, r3, r4⟩ := hF.2.2.2.2.2.1
  exact va_mabs_long hF.1 hF.2.1 (hF.2.2.1.trans hl.1.symm) hF.2.2.2.1 (hg _ hw) (hg _ ok.1) (hg _ ok.2.1) (hg _ ok.2.2) (by omega) (by rw [catsum]; omega) r3 r4 hd (kk b hb p l e R s m args below meth c H locs cells slots Q D tI tZ tG ad A ls hF hP hS hl hX)
def CopyOK : Prop := Cond.native arraycopyName ∈ lw_good ∧ Cond.static arraycopyName ∈ lw_good ∧ Cond.initialized "java/lang/System" ∈ lw_good
theorem e_copy {k0 k1 n0 n1 idx : Nat} {sp q n : Int32} {r0 r1 : List (Option Nat)} (ok : CopyOK) (hd : decode cc pc = .ok (.invokestatic idx, 3)) (hw : Cond.methodLink own idx arraycopyName ∈ lw_good) (hq0 : shl[k0]? = some (0, n0, r0)) (hq1 : shl[k1]? = some (0, n1, r1)) (h1 : ¬ sp < 0) (h2 : ¬ q < 0) (h3 : ¬ n < 0) (h4 : sp.toNatClampNeg + n.toNatClampNeg ≤ n0) (h5 : q.toNatClampNeg + n.toNatClampNeg ≤ n1) (hs0 : Nat.ble (st.map fun v => v.category).sum 8 = true) (hdp : 1 ≤ dp) (kk : Ev sc wr own cc ret dp (pc + 3) L st (upA M k1 (va_cpy (M k0) (M k1) sp.toNatClampNeg q.toNatClampNeg n.toNatClampNeg)) o) : Ev sc wr own cc ret dp pc L (.int n :: .int q :: .ref k1 :: .int sp :: .ref k0 :: st) M o := by
  have hs := Nat.le_of_ble_eq_true hs0
  intro b hb p l e R s m args below meth c H locs cells slots Q D tI tZ tG ad A ls hF hP hS hl hX
  have hg := hF.2.2.2.2.1
  have hW := hF.2.2.2.2.2.2.1
  obtain ⟨r1, r2, r3, r4⟩ := hF.2.2.2.2.2.1
  refine va_copyi (ty := .int) hF.1 hF.2.1 (hF.2.2.1.trans hl.1.symm) hF.2.2.2.1 (hg _ hw) (hg _ ok.1) (hg _ ok.2.1) (hg _ ok.2.2) hW.1 hP (cw_D hW.2.1 hW.2.2.1 M) hS k0 k1 0 0 (cw_get hq0) (cw_get hq1) rfl rfl rfl h1 h2 h3 h4 h5 (fun _ _ => rfl) (by omega) (by rw [catsum]; exact Nat.le_trans (Nat.add_le_add hs (Nat.le_of_ble_eq_true (m := 26) rfl)) (by omega)) hd (fun H1 locs1 hP1 _ hS1 => ?_)
  have e1 := cw_set (tI := tI) (tZ := tZ) (tG := tG) (ad := ad) (M := M) hq1 (va_cpy (M k0) (M k1) sp.toNatClampNeg q.toNatClampNeg n.toNatClampNeg)
  exact kk b hb p l e R s m args below meth c H1 locs1 cells slots Q D tI tZ tG ad A ls hF (e1 ▸ hP1) hS1 hl hX
end Heap
end
section
def Ca {β : Type} (sc : Option (Nat × (Nat → Int32))) (wr1 : β → Option Value × Mem) (own : String) (cc : ByteArray) (dp pc : Nat) (L : List (Option Value)) (st rest : List Value) (M : Mem) (o1 : Option β) : Prop :=
  ∀ b, o1 = some b → ∀ (p : Program) (l : Launch) (e : Env) (R : Room) (s : State) (m : MethodId) (args : Array Value) (below : List Frame) (meth : Method) (c : Code) (H : Heap) (locs : List Loc) (cells slots : Nat) (D : va_G) (tI tZ tG : ClassId) (ad : Nat → Nat) (A : Nat → Prop) (ls : Array Slot),
    Fx sc own cc dp L.length p R s m args c cells slots D tI tZ tG ad A → va_P D vwCl (cw tI tZ tG ad M) H → va_S A s.heap H locs → lh ad ls L →
    va_Run p l e R s m args below meth c H locs cells slots 0 0 (F0 m pc ls (st.map (cv ad))) (rest.map (cv ad)) (Qe D tI tZ tG ad (wr1 b) #[]) (Aw ad)
theorem opt_map_list {γ δ : Type} (f : γ → δ) (o : Option γ) (r : List γ) : (o.map f).toList ++ r.map f = (o.toList ++ r).map f := by cases o <;> rfl
section Calls
variable {α β : Type} {sc : Option (Nat × (Nat → Int32))} {wr : α → Option Value × Mem} {wr1 : β → Option Value × Mem} {own : String} {cc : ByteArray} {ret : Option FieldType} {dp pc : Nat} {L : List (Option Value)} {st rest : List Value} {M : Mem} {o1 : Option β}
theorem ev_call {k : β → Option α} (hc : Ca sc wr1 own cc dp pc L st rest M o1) (hk : ∀ b, o1 = some b → Ev sc wr own cc ret dp (pc + 3) L ((wr1 b).1.toList ++ rest) (wr1 b).2 (k b)) : Ev sc wr own cc ret dp pc L st M (o1.bind k) := by
  intro b hb p l e R s m args below meth c H locs cells slots Q D tI tZ tG ad A ls hF hP hS hl hX
  obtain ⟨x, hx1, hx2⟩ := Option.bind_eq_some_iff.mp hb
  have hA := hF.2.2.2.2.2.2.1.2.2.1
  have hAw : ∀ q, Aw ad q → A q := fun q ⟨k, hk, e⟩ => e ▸ hA k hk
  intro T hT X
  obtain ⟨v, st₀, t, T', L', h0, X', hL, e1, e2, ⟨hv, hb1, hz, hk1⟩, stp⟩ := hc x hx1 p l e R s m args below meth c H locs cells slots D tI tZ tG ad A ls hF hP hS hl T hT X
  rw [h0] at hz hk1
  have hv2 : v = (wr1 x).1.map (cv ad) := by injection hv
  subst hv2
  have hS' : va_S A s.heap T'.heap (locs ++ L') := ⟨Nat.le_trans hS.1 (by rw [e1]; exact hz), fun q h1 h2 => by rw [e1, hk1 q (Nat.lt_of_lt_of_le h1 hS.1) (fun z => h2 (hAw q z))]; exact hS.2.1 q h1 h2, fun q hq => by
      rcases List.mem_append.mp hq with h | h
      · exact hS.2.2 q h
      · exact hAw _ (hL q h)⟩
  obtain ⟨t2, a1, b1⟩ := hk x hx1 b hx2 p l e R s m args below meth c T'.heap (locs ++ L') cells slots Q D tI tZ tG ad A ls hF (by rw [e1]; exact hb1) hS' hl hX T' rfl X'
  refine ⟨t2, stp t2 ?_, b1⟩
  rw [← opt_map_list] at a1
  exact a1
/-- a call that answers, whatever may be -/
theorem ev_callT {b0 : β} {o : Option α} (hc : Ca sc wr1 own cc dp pc L st rest M (some b0)) (hk : Ev sc wr own cc ret dp (pc + 3) L ((wr1 b0).1.toList ++ rest) (wr1 b0).2 o) : Ev sc wr own cc ret dp pc L st M o := by
  have h := ev_call (wr := wr) (ret := ret) (k := fun _ => o) hc (fun b hb => by cases hb; exact hk)
  exact h
def MS (y : MethodName) (c1 : ByteArray) (nL : Nat) (ret1 : Option FieldType) (n : Nat) : Prop := Cond.static y ∈ lw_good ∧ Cond.initialized y.cls ∈ lw_good ∧ Cond.code y c1 nL ret1 ∈ lw_good ∧ (y.cls ≠ "java/lang/invoke/MethodHandle" ∧ y.cls ≠ "java/lang/invoke/VarHandle" ∧ (parseMethodDescriptor y.desc).map (fun d => d.parameters.length) = some n) ∧ nL ≤ 15
def MV (y : MethodName) (c1 : ByteArray) (nL : Nat) (ret1 : Option FieldType) (n : Nat) : Prop := Cond.instanceMethod y ∈ lw_good ∧ Cond.selects y.cls y y ∈ lw_good ∧ Cond.initialized y.cls ∈ lw_good ∧ Cond.code y c1 nL ret1 ∈ lw_good ∧ (y.cls ≠ "java/lang/invoke/MethodHandle" ∧ y.cls ≠ "java/lang/invoke/VarHandle" ∧ (parseMethodDescriptor y.desc).map (fun d => d.parameters.length) = some n) ∧ nL ≤ 15
theorem pc_blind (D : va_G) (tI tZ tG : ClassId) (ad : Nat → Nat) (as : List Value) (M : Mem) : FrameBlind (PcW D tI tZ tG ad as M) := fun a U g mk ⟨q0, qW, qP⟩ => ⟨q0, qW.calling g mk a, qP⟩
theorem pc_at {D : va_G} {tI tZ tG : ClassId} {ad : Nat → Nat} {A : Nat → Prop} {as : List Value} {M : Mem} {s : State} {H : Heap} {locs : List Loc} (hW : Wd D tI tZ tG ad A s) (hP : va_P D vwCl (cw tI tZ tG ad M) H) (hS : va_S A s.heap H locs) (U : State) (hU : U.heap = H) (hw : s.WarmedH U.vm) : PcW D tI tZ tG ad as M (as.map (cv ad)).toArray U := ⟨rfl, Wd.warm hw (by rw [hU]; exact hS) hW, by rw [hU]; exact hP⟩
theorem good_all {ws : List Cond} (h : ∀ w ∈ ws, w ∈ lw_good) : GoodIn lw_good ws := fun w hw => ⟨h w hw, good_of_word (List.mem_filter.mp (h w hw)).2⟩
theorem ca_S {y : MethodName} {c1 : ByteArray} {nL1 dp1 idx n : Nat} {ret1 : Option FieldType} {as : List Value} (ms : MS y c1 nL1 ret1 n) (hsp : SpO wr1 y c1 nL1 ret1 dp1 as M o1) (hd : decode cc pc = .ok (.invokestatic idx, 3)) (hw : Cond.methodLink own idx y ∈ lw_good) (hn : as.length = n) (hst : as.reverse ++ rest = st) (hr0 : Nat.ble (rest.map fun v => v.category).sum 8 = true) (hdp : dp1 + 1 ≤ dp) : Ca sc wr1 own cc dp pc L st rest M o1 := by
  have hr := Nat.le_of_ble_eq_true hr0
  intro b hb p l e R s m args below meth c H locs cells slots D tI tZ tG ad A ls hF hP hS hl
  obtain ⟨r1, r2, r3, r4⟩ := hF.2.2.2.2.2.1
  obtain ⟨m1, m2, m3, m4, m5⟩ := ms
  have hR : (rmD dp1).frames + 1 ≤ R.frames ∧ 8 + (nL1 + 11) + (rmD dp1).locals ≤ R.locals := by
    constructor
    · show dp1 + 1 ≤ R.frames
      omega
    · show 8 + (nL1 + 11) + 34 * dp1 ≤ R.locals
      omega
  have hT : GoodIn lw_good (va_wsS own idx y (Cond.code y c1 nL1 ret1 :: lw_good)) := good_all (by
    intro w h
    rcases List.mem_append.mp h with h | h
    · rcases List.mem_cons.mp h with rfl | h
      · exact hw
      · rcases List.mem_cons.mp h with rfl | h
        · exact m1
        · rw [List.mem_singleton] at h
          subst h
          exact m2
    · rcases List.mem_cons.mp h with rfl | h
      · exact m3
      · exact h)
  refine va_runS (As := as.map (cv ad)) (Qc := Qe D tI tZ tG ad (wr1 b)) (n := n) ⟨hF.1, hF.2.1, hF.2.2.1, hF.2.2.2.1, hF.2.2.2.2.1⟩ (hsp b hb l D tI tZ tG ad) (va_cwS n hF.2.2.2.2.1 hT rfl rfl rfl m4 hR) ⟨pc_blind D tI tZ tG ad as M, pc_at hF.2.2.2.2.2.2.1 hP hS⟩ rfl (by rw [List.length_map]; exact hn) hl.1 ?_ (lv_room (by rw [catsum]; exact hr)) hd ⟨r3, r4⟩
  show st.map (cv ad) = (as.map (cv ad)).reverse ++ rest.map (cv ad)
  rw [← hst, List.map_append, List.map_reverse]
theorem ca_SN {y : MethodName} {c1 : ByteArray} {nL1 dp1 idx n : Nat} {host : String} {ret1 : Option FieldType} {as : List Value} (ms : MS y c1 nL1 ret1 n) (hsp : SpO wr1 y c1 nL1 ret1 dp1 as M o1) (hd : decode cc pc = .ok (.invokestatic idx, 3)) (hw : Cond.methodLinkNest own idx y host ∈ lw_nest) (hn : as.length = n) (hst : as.reverse ++ rest = st) (hr0 : Nat.ble (rest.map fun v => v.category).sum 8 = true) (hdp : dp1 + 1 ≤ dp) : Ca sc wr1 own cc dp pc L st rest M o1 := by
  have hr := Nat.le_of_ble_eq_true hr0
  intro b hb p l e R s m args below meth c H locs cells slots D tI tZ tG ad A ls hF hP hS hl
  obtain ⟨r1, r2, r3, r4⟩ := hF.2.2.2.2.2.1
  obtain ⟨m1, m2, m3, m4, m5⟩ := ms
  have hR : (rmD dp1).frames + 1 ≤ R.frames ∧ 8 + (nL1 + 11) + (rmD dp1).locals ≤ R.locals := by
    constructor
    · show dp1 + 1 ≤ R.frames
      omega
    · show 8 + (nL1 + 11) + 34 * dp1 ≤ R.locals
      omega
  have hT : GoodIn lw_good (Cond.code y c1 nL1 ret1 :: lw_good) := good_in0 _ m3
  have hN : va_Nw (.methodLinkNest own idx y host) s := hF.2.2.2.2.2.2.1.2.2.2.2.2 _ hw
  refine va_runSN (As := as.map (cv ad)) (Qc := Qe D tI tZ tG ad (wr1 b)) (n := n) (host := host) ⟨hF.1, hF.2.1, hF.2.2.1, hF.2.2.2.1, hF.2.2.2.2.1⟩ (hsp b hb l D tI tZ tG ad) ⟨va_cnB n hF.2.2.2.2.1 hT rfl rfl rfl hN (hF.2.2.2.2.1 _ m2) m4 hR, hF.2.2.2.2.1 _ m1, trivial⟩ ⟨pc_blind D tI tZ tG ad as M, pc_at hF.2.2.2.2.2.2.1 hP hS⟩ rfl (by rw [List.length_map]; exact hn) hl.1 ?_ (lv_room (by rw [catsum]; exact hr)) hd ⟨r3, r4⟩
  show st.map (cv ad) = (as.map (cv ad)).reverse ++ rest.map (cv ad)
  rw [← hst, List.map_append, List.map_reverse]
theorem ca_V {y : MethodName} {c1 : ByteArray} {nL1 dp1 idx n k ci n0 N : Nat} {T : u_T} {rs : List (Option Nat)} {ret1 : Option FieldType} {as : List Value} (mv : MV y c1 nL1 ret1 n) (hsp : SpO wr1 y c1 nL1 ret1 dp1 (.ref k :: as) M o1) (hd : decode cc pc = .ok (.invokevirtual idx, 3)) (hw : Cond.methodLink own idx y ∈ lw_good) (hq : shl[k]? = some (ci + 3, n0, rs)) (hc : vwCl[ci]? = some (y.cls, T, N)) (hn : as.length = n) (hst : as.reverse ++ .ref k :: rest = st) (hr0 : Nat.ble (rest.map fun v => v.category).sum 8 = true) (hdp : dp1 + 1 ≤ dp) : Ca sc wr1 own cc dp pc L st rest M o1 := by
  have hr := Nat.le_of_ble_eq_true hr0
  intro b hb p l e R s m args below meth c H locs cells slots D tI tZ tG ad A ls hF hP hS hl
  obtain ⟨r1, r2, r3, r4⟩ := hF.2.2.2.2.2.1
  obtain ⟨m1, m2, m3, m4, m5, m6⟩ := mv
  have hR : (rmD dp1).frames + 1 ≤ R.frames ∧ 8 + (nL1 + 11) + (rmD dp1).locals ≤ R.locals := by
    constructor
    · show dp1 + 1 ≤ R.frames
      omega
    · show 8 + (nL1 + 11) + 34 * dp1 ≤ R.locals
      omega
  have hT : GoodIn lw_good (wsV own idx y.cls y (Cond.code y c1 nL1 ret1 :: lw_good)) := good_all (by
    intro w h
    rcases List.mem_append.mp h with h | h
    · rcases List.mem_cons.mp h with rfl | h
      · exact hw
      · rcases List.mem_cons.mp h with rfl | h
        · exact m1
        · rcases List.mem_cons.mp h with rfl | h
          · exact m2
          · rw [List.mem_singleton] at h
            subst h
            exact m3
    · rcases List.mem_cons.mp h with rfl | h
      · exact m4
      · exact h)
  refine va_runV (C := y.cls) (b := ad k) (As := as.map (cv ad)) (Qc := Qe D tI tZ tG ad (wr1 b)) (n := n) ⟨hF.1, hF.2.1, hF.2.2.1, hF.2.2.2.1, hF.2.2.2.2.1⟩ (hsp b hb l D tI tZ tG ad) (cwV n hF.2.2.2.2.1 hT rfl rfl rfl ⟨rfl, m5⟩ hR) ⟨pc_blind D tI tZ tG ad _ M, va_recv hF.2.2.2.2.2.2.1.1 hP hc (cw_get hq), fun U hU hw => pc_at (as := .ref k :: as) hF.2.2.2.2.2.2.1 hP hS U hU hw⟩ rfl (by rw [List.length_map]; exact hn) hl.1 ?_ (lv_room (by rw [catsum]; exact hr)) hd ⟨r3, r4⟩
  show st.map (cv ad) = (as.map (cv ad)).reverse ++ .ref (ad k) :: rest.map (cv ad)
  rw [← hst, List.map_append, List.map_reverse]
  rfl
end Calls
/-- the locals with which a method begins -/
def ent (as : List Value) (n : Nat) : List (Option Value) := (as.flatMap fun v => if v.category = 2 then [some v, none] else [some v]) ++ List.replicate (n - (lg_sl as).length) none
theorem ent_mem (ad : Nat → Nat) : ∀ (as : List Value) (i0 j : Nat) (v : Value), (as.flatMap fun v => if v.category = 2 then [some v, none] else [some v])[j]? = some (some v) → (i0 + j, cv ad v) ∈ lv_args i0 (as.map (cv ad))
  | [], i0, j, v, h => by simp at h
  | a :: as, i0, j, v, h => by
    rw [List.map_cons]
    unfold lv_args
    rw [List.flatMap_cons] at h
    by_cases hc : a.category = 2
    · rw [if_pos hc] at h
      rw [if_pos ((cv_cat ad a).trans hc)]
      match j, h with
      | 0, h =>
        have h2 : some (some a) = some (some v) := h
        cases h2
        exact List.mem_cons_self
      | 1, h =>
        have h2 : (some none : Option (Option Value)) = some (some v) := h
        cases h2
      | j + 2, h =>
        have h2 : (as.flatMap fun v => if v.category = 2 then [some v, none] else [some v])[j]? = some (some v) := h
        have h3 := ent_mem ad as (i0 + 2) j v h2
        rw [show i0 + 2 + j = i0 + (j + 2) by omega] at h3
        exact List.mem_cons_of_mem _ h3
    · rw [if_neg hc] at h
      rw [if_neg (fun h => hc ((cv_cat ad a).symm.trans h))]
      match j, h with
      | 0, h =>
        have h2 : some (some a) = some (some v) := h
        cases h2
        exact List.mem_cons_self
      | j + 1, h =>
        have h2 : (as.flatMap fun v => if v.category = 2 then [some v, none] else [some v])[j]? = some (some v) := h
        have h3 := ent_mem ad as (i0 + 1) j v h2
        rw [show i0 + 1 + j = i0 + (j + 1) by omega] at h3
        exact List.mem_cons_of_mem _ h3
theorem lg_len (ad : Nat → Nat) : ∀ as : List Value, (lg_sl (as.map (cv ad))).length = (lg_sl as).length
  | [] => rfl
  | a :: as => by
    have ih := lg_len ad as
    unfold lg_sl at ih ⊢
    rw [List.map_cons, List.flatMap_cons, List.flatMap_cons, List.length_append, List.length_append, ih, cv_cat]
    split <;> rfl
theorem ent_len0 : ∀ as : List Value, (as.flatMap fun v => if v.category = 2 then [some v, none] else [some v]).length = (lg_sl as).length
  | [] => rfl
  | a :: as => by
    have ih := ent_len0 as
    unfold lg_sl at ih ⊢
    rw [List.flatMap_cons, List.flatMap_cons, List.length_append, List.length_append, ih]
    split <;> rfl
theorem ent_len (as : List Value) {n : Nat} (h : (lg_sl as).length ≤ n) : (ent as n).length = n := by
  unfold ent
  rw [List.length_append, List.length_replicate, ent_len0]
  omega
theorem ent_lh (ad : Nat → Nat) (as : List Value) {n : Nat} (h : (lg_sl as).length ≤ n) : lh ad ((lg_sl (as.map (cv ad)) ++ List.replicate (n - (lg_sl (as.map (cv ad))).length) Slot.unset).toArray) (ent as n) := by
  have h1 := lv_entry (as.map (cv ad)) (n := n) (by rw [lg_len]; exact h)
  refine ⟨h1.1.trans (ent_len as h).symm, h1.2.1, fun i v hi => ?_⟩
  unfold ent at hi
  by_cases hl : i < (as.flatMap fun v => if v.category = 2 then [some v, none] else [some v]).length
  · rw [List.getElem?_append_left hl] at hi
    have h2 := ent_mem ad as 0 i v hi
    rw [Nat.zero_add] at h2
    exact h1.2.2 (i, cv ad v) h2
  · rw [List.getElem?_append_right (by omega)] at hi
    have := List.eq_of_mem_replicate (List.mem_of_getElem? hi)
    cases this
theorem met_ofW {l : Launch} {y : MethodName} {ws ws' : List Cond} {rm : Room} {Pc : Array Value → State → Prop} {Qc : Array Value → State → Outcome → State → Prop} {mc ms : Nat} {free : Addr → Prop} {cc : ByteArray} {maxL : Nat} {ret : Option FieldType}
    (hy : plainFor y = true) (hw : ws = Cond.code y cc maxL ret :: ws')
    (body : ∀ p e s m args below meth c s₁, BodyLoose p l y (headSpec ws rm) cc maxL ret e s m args below meth c s₁ → c.maxLocals = maxL → Pc args s →
      W p l e (headSpec ws rm).room s m args below meth c s.heap [] 0 0 (MQ below Qc args s mc ms free) (entryFrame m args maxL)) : Met l y ws rm Pc Qc mc ms free := by
  refine MetFree.of_bodySF (code := cc) (maxLocals := maxL) (ret := ret) hy ?_ ?_
  · intro args s m h hn
    obtain ⟨meth, c, h1, h2, h3, h4, h5, h6, -, -⟩ := Cond.code_spec hn (atoms_spec (ws := ws) h _ (by rw [hw]; exact List.mem_cons_self))
    exact ⟨meth, c, h1, h2, h3, h4, h5, h6⟩
  · intro p e s m args below meth c s₁ B hml hP _
    have hh0 : s₁.heap = s.heap := by rw [B.state]; rfl
    obtain ⟨t, a1, o, b1, b2, b3⟩ := body p e s m args below meth c s₁ B hml hP s₁ hh0 (Stand.of_body B)
    exact ⟨t, o, a1, b1, b2, ⟨b3.1, b3.2⟩⟩
theorem sp_of {α : Type} {wr : α → Option Value × Mem} {y : MethodName} {own : String} {c1 : ByteArray} {nL dp : Nat} {ret : Option FieldType} {as : List Value} {L : List (Option Value)} {M : Mem} {o : Option α} (hy : y.cls = own) (hpl : plainFor y = true) (hlen0 : Nat.ble (lg_sl as).length nL = true) (hL : ent as nL = L) (h : Ev none wr own c1 ret dp 0 L [] M o) : SpO wr y c1 nL ret dp as M o := by
  subst hL
  have hlen := Nat.le_of_ble_eq_true hlen0
  intro b hb l D tI tZ tG ad
  refine met_ofW (cc := c1) (maxL := nL) (ret := ret) hpl rfl ?_
  intro p e s m args below meth c s₁ B hml hv
  obtain ⟨rfl, hW, hP⟩ := hv
  have hts := atoms_spec (ws := Cond.code y c1 nL ret :: lw_good) B.pre
  have hown : s.vm.findClass own = some m.cls := hy ▸ findClass_of_methodNamed B.named
  have hlocks := B.notSynchronized
  have hr := B.returns
  rw [lg_entry_eq]
  refine h b hb p l e _ s m _ below meth c s.heap [] 0 0 _ D tI tZ tG ad (Aw ad) _ ⟨B.exec, B.bytes, ?_, hown, fun w hw => hts w (List.mem_cons_of_mem _ hw), ⟨Nat.le_refl _, Nat.le_refl _, Nat.zero_le _, Nat.zero_le _⟩, hW, fun n f h => by cases h⟩ hP va_S.rf (ent_lh ad as hlen) ?_
  · rw [ent_len as hlen]; exact hml
  · intro H' locs' ls' pc' hok hP' hS' hd
    have hq : ∀ t : State, t.heap = H' → Qe D tI tZ tG ad (wr b) (as.map (cv ad)).toArray s (.returned ((wr b).1.map (cv ad))) t := fun t ht => ⟨rfl, by rw [ht]; exact hP', hS'.F ht⟩
    rcases hok with ⟨h1, h2⟩ | ⟨v, h1, h2⟩ | ⟨ty, v, h1, h2, h3⟩
    · rw [h2] at hq hd ⊢
      exact W.vret B.exec B.bytes (hr.trans h1) (fun t ht _ => hq t ht) hS'.2.2 hd
    · rw [h2] at hq hd ⊢
      exact W.lret B.exec B.bytes (hr.trans h1) (fun t ht _ => hq t ht) hS'.2.2 hd
    · rw [h2] at hq hd ⊢
      exact W.zret B.exec B.bytes (hr.trans h1) h3 (fun t ht _ => hq t ht) hS'.2.2 hd
-- how what is answered is told
abbrev wI : Int32 × Mem → Option Value × Mem := fun q => (some (.int q.1), q.2)
abbrev wR (M : Mem) : Int32 → Option Value × Mem := fun r => (some (.int r), M)
abbrev wL (M : Mem) : Int64 → Option Value × Mem := fun r => (some (.long r), M)
abbrev wV : Mem → Option Value × Mem := fun M => (none, M)
def dec_ok (c1 : ByteArray) (tb : List (Nat × Instr × Nat)) : Bool := tb.all (fun q => decide (decode c1 q.1 = .ok q.2))
theorem dt {c1 : ByteArray} {tb : List (Nat × Instr × Nat)} (h : dec_ok c1 tb = true) (i : Nat) {pc n : Nat} {ins : Instr} (hi : tb[i]? = some (pc, ins, n)) : decode c1 pc = .ok (ins, n) := by
  have h1 := List.all_eq_true.mp h _ (List.mem_of_getElem? hi)
  exact of_decide_eq_true h1
def fgt (mask : List Bool) (L : List (Option Value)) : List (Option Value) := List.zipWith (fun b v => if b then v else none) mask L
theorem e_forget {α : Type} {sc : Option (Nat × (Nat → Int32))} {wr : α → Option Value × Mem} {own : String} {cc : ByteArray} {ret : Option FieldType} {dp pc : Nat} {L : List (Option Value)} {st : List Value} {M : Mem} {o : Option α} (mask : List Bool) (L' : List (Option Value)) (h : fgt mask L = L' ∧ mask.length = L.length) (k : Ev sc wr own cc ret dp pc L' st M o) : Ev sc wr own cc ret dp pc L st M o := by
  obtain ⟨h1, h2⟩ := h
  subst h1
  have hlen : (fgt mask L).length = L.length := by
    unfold fgt
    rw [List.length_zipWith, h2, Nat.min_self]
  intro b hb p l e R s m args below meth c H locs cells slots Q D tI tZ tG ad A ls hF hP hS hl hX
  refine k b hb p l e R s m args below meth c H locs cells slots Q D tI tZ tG ad A ls (by rw [hlen]; exact hF) hP hS ⟨hl.1.trans hlen.symm, hl.2.1, fun i v hi => hl.2.2 i v ?_⟩ hX
  unfold fgt at hi
  rw [List.getElem?_zipWith] at hi
  cases hm : mask[i]? with
  | none => rw [hm] at hi; cases hi
  | some t =>
    cases hv : L[i]? with
    | none => rw [hm, hv] at hi; cases hi
    | some w =>
      rw [hm, hv] at hi
      have h3 : (if t = true then w else none) = some v := Option.some.inj hi
      cases t with
      | true => rw [if_pos rfl] at h3; rw [h3]
      | false => simp at h3
theorem narrow_bool {x : Int32} (h : x = 0 ∨ x = 1) : narrow .boolean (.int x) = .int x := by rcases h with rfl | rfl <;> rfl
theorem sw_out (hi : Nat) {x : Int32} (h : (List.range (hi + 1)).all (fun j => decide (¬ x = Int32.ofNat j)) = true) : x.toInt < 0 ∨ (hi : Int) < x.toInt := by
  rcases Int.lt_or_le x.toInt 0 with h1 | h1
  · exact Or.inl h1
  · rcases Int.lt_or_le (hi : Int) x.toInt with h2 | h2
    · exact Or.inr h2
    · exfalso
      have h3 := List.all_eq_true.mp h x.toInt.toNat (List.mem_range.mpr (by omega))
      have h4 := of_decide_eq_true h3
      obtain ⟨j, hj, e⟩ := nI_of (x := x) (fun q => by have := Int32.lt_iff_toInt_lt.mp q; simp at this; omega)
      apply h4
      have e2 : x.toInt = (j : Int) := by rw [e]; exact nI_toInt hj
      rw [e2]
      exact e
abbrev remI (x y : Int32) : Int32 := x - x / y * y
abbrev remL (x y : Int64) : Int64 := x - x / y * y
abbrev ushr (x y : Int32) : Int32 := (x.toUInt32 >>> (y.toUInt32 &&& Int32.toUInt32 31)).toInt32
def minI (x y : Int32) : Int32 := if y < x then y else x
def maxI (x y : Int32) : Int32 := if x < y then y else x
def absL (x : Int64) : Int64 := if 0 < x then x else -x
def FU : Nat := 1000
end
section
theorem ci_X0 : CI 0 RX0 TX0 3 tyX0 := ⟨rfl, mem_goods [140, 142, 144] (by decide +kernel), tyX0_ok, nmX0⟩
theorem ci_X1 : CI 1 RX1 TX1 6 tyX1 := ⟨rfl, mem_goods [208, 210, 212, 214, 216, 218] (by decide +kernel), tyX1_ok, nmX1⟩
theorem ci_X2 : CI 2 RX2 TX2 4 tyX2 := ⟨rfl, mem_goods [233, 235, 237, 239] (by decide +kernel), tyX2_ok, nmX2⟩
theorem ci_X3 : CI 3 RX3 TX3 5 tyX3 := ⟨rfl, mem_goods [255, 257, 259, 261, 263] (by decide +kernel), tyX3_ok, nmX3⟩
theorem ci_X4 : CI 4 RX4 TX4 3 tyX4 := ⟨rfl, mem_goods [282, 284, 286] (by decide +kernel), tyX4_ok, nmX4⟩
theorem ci_X5 : CI 5 RX5 TX5 2 tyX5 := ⟨rfl, mem_goods [122, 124] (by decide +kernel), tyX5_ok, nmX5⟩
theorem ci_X6 : CI 6 RX6 TX6 3 tyX6 := ⟨rfl, mem_goods [187, 189, 191] (by decide +kernel), tyX6_ok, nmX6⟩
theorem ci_X7 : CI 7 RX7 TX7 5 tyX7 := ⟨rfl, mem_goods [163, 165, 167, 169, 171] (by decide +kernel), tyX7_ok, nmX7⟩
theorem ci_X8 : CI 8 RX8 TX8 9 tyX8 := ⟨rfl, mem_goods [92, 94, 96, 98, 100, 102, 104, 106, 108] (by decide +kernel), tyX8_ok, nmX8⟩
theorem ci_X9 : CI 9 RX9 TX9 10 tyX9 := ⟨rfl, mem_goods [299, 301, 303, 305, 307, 309, 311, 313, 315, 317] (by decide +kernel), tyX9_ok, nmX9⟩
theorem ci_X10 : CI 10 RX10 TX10 34 tyX10 := ⟨rfl, mem_goods [682, 684, 686, 688, 690, 692, 694, 696, 698, 700, 702, 704, 706, 708, 710, 712, 714, 716, 718, 720, 722, 724, 726, 728, 730, 732, 734, 736, 738, 740, 742, 744, 746, 748] (by decide +kernel), tyX10_ok, nmX10⟩
theorem ok_min : MathOK Lib.Math.min.name Lib.Math.min.code (some .int) := ⟨mem_good 433 (by decide +kernel), mem_good 60 (by decide +kernel), mem_good 434 (by decide +kernel)⟩
theorem ok_max : MathOK Lib.Math.max.name Lib.Math.max.code (some .int) := ⟨mem_good 448 (by decide +kernel), mem_good 60 (by decide +kernel), mem_good 449 (by decide +kernel)⟩
theorem ok_abs : MathOK Lib.MathLoose.abs_long.x Lib.MathLoose.abs_long.code (some .long) := ⟨mem_good 604 (by decide +kernel), mem_good 60 (by decide +kernel), mem_good 605 (by decide +kernel)⟩
theorem ok_copy : CopyOK := ⟨mem_good 400 (by decide +kernel), mem_good 399 (by decide +kernel), mem_good 59 (by decide +kernel)⟩
theorem ml_X9_75 : Cond.methodLink RX9 75 yX9_isHouse ∈ lw_good := mem_good 324 (by decide +kernel)
theorem ml_X9_79 : Cond.methodLink RX9 79 yX9_within ∈ lw_good := mem_good 327 (by decide +kernel)
theorem fl_X9_10 : Cond.fieldLink RX9 10 (TX9 0).1 (TX9 0).2.1 (TX9 0).2.2.1 ∈ lw_good := mem_good 289 (by decide +kernel)
theorem fl_X9_83 : Cond.fieldLink RX9 83 (TX8 0).1 (TX8 0).2.1 (TX8 0).2.2.1 ∈ lw_good := mem_good 76 (by decide +kernel)
theorem fl_X9_87 : Cond.fieldLink RX9 87 (TX8 1).1 (TX8 1).2.1 (TX8 1).2.2.1 ∈ lw_good := mem_good 78 (by decide +kernel)
theorem fl_X9_90 : Cond.fieldLink RX9 90 (TX8 2).1 (TX8 2).2.1 (TX8 2).2.2.1 ∈ lw_good := mem_good 80 (by decide +kernel)
theorem fl_X9_93 : Cond.fieldLink RX9 93 (TX8 3).1 (TX8 3).2.1 (TX8 3).2.2.1 ∈ lw_good := mem_good 82 (by decide +kernel)
theorem ml_X9_96 : Cond.methodLink RX9 96 yX8_hasHole ∈ lw_good := mem_good 334 (by decide +kernel)
theorem mn_X8_46 : Cond.methodLinkNest RX8 46 yX9_isHouse "DoubtCatcher" ∈ lw_nest := mem_nest 338 (by decide +kernel)
theorem fl_X8_24 : Cond.fieldLink RX8 24 (TX8 4).1 (TX8 4).2.1 (TX8 4).2.2.1 ∈ lw_good := mem_good 83 (by decide +kernel)
theorem ml_X9_104 : Cond.methodLink RX9 104 yX8_countHoles ∈ lw_good := mem_good 343 (by decide +kernel)
theorem ml_X8_50 : Cond.methodLink RX8 50 yJ6_bitCount_0f7a4 ∈ lw_good := mem_good 347 (by decide +kernel)
theorem kc_J6_265 : Cond.constant RJ6 265 (1431655765 : Int32) ∈ lw_good := mem_good 350 (by decide +kernel)
theorem kc_J6_266 : Cond.constant RJ6 266 (858993459 : Int32) ∈ lw_good := mem_good 351 (by decide +kernel)
theorem kc_J6_267 : Cond.constant RJ6 267 (252645135 : Int32) ∈ lw_good := mem_good 352 (by decide +kernel)
theorem ml_X9_100 : Cond.methodLink RX9 100 yX8_turnHole ∈ lw_good := mem_good 339 (by decide +kernel)
theorem fl_X9_108 : Cond.fieldLink RX9 108 (TX8 6).1 (TX8 6).2.1 (TX8 6).2.2.1 ∈ lw_good := mem_good 87 (by decide +kernel)
theorem fl_X9_22 : Cond.fieldLink RX9 22 (TX9 2).1 (TX9 2).2.1 (TX9 2).2.2.1 ∈ lw_good := mem_good 291 (by decide +kernel)
theorem ml_X9_112 : Cond.methodLink RX9 112 yX5_add ∈ lw_good := mem_good 361 (by decide +kernel)
theorem fl_X5_15 : Cond.fieldLink RX5 15 (TX5 1).1 (TX5 1).2.1 (TX5 1).2.2.1 ∈ lw_good := mem_good 119 (by decide +kernel)
theorem fl_X5_9 : Cond.fieldLink RX5 9 (TX5 0).1 (TX5 0).2.1 (TX5 0).2.2.1 ∈ lw_good := mem_good 118 (by decide +kernel)
theorem fl_X9_115 : Cond.fieldLink RX9 115 (TX5 1).1 (TX5 1).2.1 (TX5 1).2.2.1 ∈ lw_good := mem_good 121 (by decide +kernel)
theorem ml_X9_118 : Cond.methodLink RX9 118 yX5_faultPlace ∈ lw_good := mem_good 373 (by decide +kernel)
theorem ml_X5_31 : Cond.methodLink RX5 31 yX5_awaitedBehind ∈ lw_good := mem_good 377 (by decide +kernel)
theorem mn_X5_35 : Cond.methodLinkNest RX5 35 yX9_isLetter "DoubtCatcher" ∈ lw_nest := mem_nest 380 (by decide +kernel)
theorem ml_X5_38 : Cond.methodLink RX5 38 yX5_isDeed ∈ lw_good := mem_good 383 (by decide +kernel)
theorem ml_X9_121 : Cond.methodLink RX9 121 yX9_tryPad ∈ lw_good := mem_good 390 (by decide +kernel)
theorem fl_X9_16 : Cond.fieldLink RX9 16 (TX9 1).1 (TX9 1).2.1 (TX9 1).2.2.1 ∈ lw_good := mem_good 290 (by decide +kernel)
theorem ml_X9_152 : Cond.methodLink RX9 152 yX8_become ∈ lw_good := mem_good 394 (by decide +kernel)
theorem fl_X8_9 : Cond.fieldLink RX8 9 (TX8 0).1 (TX8 0).2.1 (TX8 0).2.2.1 ∈ lw_good := mem_good 75 (by decide +kernel)
theorem ml_X8_34 : Cond.methodLink RX8 34 arraycopyName ∈ lw_good := mem_good 398 (by decide +kernel)
theorem fl_X8_15 : Cond.fieldLink RX8 15 (TX8 1).1 (TX8 1).2.1 (TX8 1).2.2.1 ∈ lw_good := mem_good 77 (by decide +kernel)
theorem fl_X8_18 : Cond.fieldLink RX8 18 (TX8 2).1 (TX8 2).2.1 (TX8 2).2.2.1 ∈ lw_good := mem_good 79 (by decide +kernel)
theorem fl_X8_21 : Cond.fieldLink RX8 21 (TX8 3).1 (TX8 3).2.1 (TX8 3).2.2.1 ∈ lw_good := mem_good 81 (by decide +kernel)
theorem fl_X8_30 : Cond.fieldLink RX8 30 (TX8 6).1 (TX8 6).2.1 (TX8 6).2.2.1 ∈ lw_good := mem_good 86 (by decide +kernel)
theorem fl_X8_40 : Cond.fieldLink RX8 40 (TX8 7).1 (TX8 7).2.1 (TX8 7).2.2.1 ∈ lw_good := mem_good 88 (by decide +kernel)
theorem fl_X8_43 : Cond.fieldLink RX8 43 (TX8 8).1 (TX8 8).2.1 (TX8 8).2.2.1 ∈ lw_good := mem_good 90 (by decide +kernel)
theorem fl_X9_36 : Cond.fieldLink RX9 36 (TX9 4).1 (TX9 4).2.1 (TX9 4).2.2.1 ∈ lw_good := mem_good 293 (by decide +kernel)
theorem fl_X9_29 : Cond.fieldLink RX9 29 (TX9 3).1 (TX9 3).2.1 (TX9 3).2.2.1 ∈ lw_good := mem_good 292 (by decide +kernel)
theorem ml_X9_159 : Cond.methodLink RX9 159 yX7_follow ∈ lw_good := mem_good 401 (by decide +kernel)
theorem fl_X7_9 : Cond.fieldLink RX7 9 (TX7 1).1 (TX7 1).2.1 (TX7 1).2.2.1 ∈ lw_good := mem_good 155 (by decide +kernel)
theorem fl_X7_15 : Cond.fieldLink RX7 15 (TX7 2).1 (TX7 2).2.1 (TX7 2).2.2.1 ∈ lw_good := mem_good 157 (by decide +kernel)
theorem fl_X7_18 : Cond.fieldLink RX7 18 (TX7 3).1 (TX7 3).2.1 (TX7 3).2.2.1 ∈ lw_good := mem_good 159 (by decide +kernel)
theorem fl_X7_21 : Cond.fieldLink RX7 21 (TX7 4).1 (TX7 4).2.1 (TX7 4).2.2.1 ∈ lw_good := mem_good 161 (by decide +kernel)
theorem ml_X7_24 : Cond.methodLink RX7 24 yX8_clearHouses ∈ lw_good := mem_good 405 (by decide +kernel)
theorem fl_X7_30 : Cond.fieldLink RX7 30 (TX7 0).1 (TX7 0).2.1 (TX7 0).2.2.1 ∈ lw_good := mem_good 153 (by decide +kernel)
theorem fl_X7_33 : Cond.fieldLink RX7 33 (TX5 1).1 (TX5 1).2.1 (TX5 1).2.2.1 ∈ lw_good := mem_good 120 (by decide +kernel)
theorem ml_X7_38 : Cond.methodLink RX7 38 yX0_read ∈ lw_good := mem_good 409 (by decide +kernel)
theorem ml_X0_9 : Cond.methodLink RX0 9 yX5_signAt ∈ lw_good := mem_good 413 (by decide +kernel)
theorem mn_X5_19 : Cond.methodLinkNest RX5 19 yX9_within "DoubtCatcher" ∈ lw_nest := mem_nest 417 (by decide +kernel)
theorem fl_X0_15 : Cond.fieldLink RX0 15 (TX0 0).1 (TX0 0).2.1 (TX0 0).2.2.1 ∈ lw_good := mem_good 133 (by decide +kernel)
theorem fl_X0_21 : Cond.fieldLink RX0 21 (TX0 1).1 (TX0 1).2.1 (TX0 1).2.2.1 ∈ lw_good := mem_good 136 (by decide +kernel)
theorem fl_X0_24 : Cond.fieldLink RX0 24 (TX0 2).1 (TX0 2).2.1 (TX0 2).2.2.1 ∈ lw_good := mem_good 138 (by decide +kernel)
theorem ml_X0_27 : Cond.methodLink RX0 27 yX5_houseAt ∈ lw_good := mem_good 418 (by decide +kernel)
theorem ml_X5_23 : Cond.methodLink RX5 23 yX5_signAt ∈ lw_good := mem_good 422 (by decide +kernel)
theorem mn_X5_27 : Cond.methodLinkNest RX5 27 yX9_isHouse "DoubtCatcher" ∈ lw_nest := mem_nest 423 (by decide +kernel)
theorem ml_X7_44 : Cond.methodLink RX7 44 yX8_whyNot ∈ lw_good := mem_good 424 (by decide +kernel)
theorem fl_X8_56 : Cond.fieldLink RX8 56 (TX0 1).1 (TX0 1).2.1 (TX0 1).2.2.1 ∈ lw_good := mem_good 137 (by decide +kernel)
theorem fl_X8_61 : Cond.fieldLink RX8 61 (TX0 0).1 (TX0 0).2.1 (TX0 0).2.2.1 ∈ lw_good := mem_good 134 (by decide +kernel)
theorem fl_X8_64 : Cond.fieldLink RX8 64 (TX0 2).1 (TX0 2).2.1 (TX0 2).2.2.1 ∈ lw_good := mem_good 139 (by decide +kernel)
theorem ml_X7_48 : Cond.methodLink RX7 48 yX8_take ∈ lw_good := mem_good 428 (by decide +kernel)
theorem ml_X8_67 : Cond.methodLink RX8 67 Lib.Math.min.name ∈ lw_good := mem_good 432 (by decide +kernel)
theorem ml_X8_73 : Cond.methodLink RX8 73 yX8_turnHole ∈ lw_good := mem_good 435 (by decide +kernel)
theorem ml_X8_77 : Cond.methodLink RX8 77 yX8_passWeek ∈ lw_good := mem_good 436 (by decide +kernel)
theorem ml_X8_86 : Cond.methodLink RX8 86 yX8_wander ∈ lw_good := mem_good 450 (by decide +kernel)
theorem fl_X8_27 : Cond.fieldLink RX8 27 (TX8 5).1 (TX8 5).2.1 (TX8 5).2.2.1 ∈ lw_good := mem_good 85 (by decide +kernel)
theorem ml_X8_92 : Cond.methodLink RX8 92 yX8_quietestOf ∈ lw_good := mem_good 454 (by decide +kernel)
theorem ml_X8_89 : Cond.methodLink RX8 89 Lib.Math.max.name ∈ lw_good := mem_good 458 (by decide +kernel)
theorem mn_X8_80 : Cond.methodLinkNest RX8 80 yX9_grown "DoubtCatcher" ∈ lw_nest := mem_nest 440 (by decide +kernel)
theorem ml_X9_262 : Cond.methodLink RX9 262 Lib.Math.min.name ∈ lw_good := mem_good 443 (by decide +kernel)
theorem mn_X8_83 : Cond.methodLinkNest RX8 83 yX9_uncaged "DoubtCatcher" ∈ lw_nest := mem_nest 444 (by decide +kernel)
theorem ml_X9_265 : Cond.methodLink RX9 265 Lib.Math.max.name ∈ lw_good := mem_good 447 (by decide +kernel)
theorem ml_X7_52 : Cond.methodLink RX7 52 yX7_noteRid ∈ lw_good := mem_good 459 (by decide +kernel)
theorem fl_X9_124 : Cond.fieldLink RX9 124 (TX7 1).1 (TX7 1).2.1 (TX7 1).2.2.1 ∈ lw_good := mem_good 156 (by decide +kernel)
theorem fl_X9_127 : Cond.fieldLink RX9 127 (TX7 2).1 (TX7 2).2.1 (TX7 2).2.2.1 ∈ lw_good := mem_good 158 (by decide +kernel)
theorem fl_X9_130 : Cond.fieldLink RX9 130 (TX8 7).1 (TX8 7).2.1 (TX8 7).2.2.1 ∈ lw_good := mem_good 89 (by decide +kernel)
theorem ml_X9_133 : Cond.methodLink RX9 133 yX8_ofHouse ∈ lw_good := mem_good 467 (by decide +kernel)
theorem ml_X9_137 : Cond.methodLink RX9 137 yX8_allDoubts ∈ lw_good := mem_good 475 (by decide +kernel)
theorem fl_X9_140 : Cond.fieldLink RX9 140 (TX8 8).1 (TX8 8).2.1 (TX8 8).2.2.1 ∈ lw_good := mem_good 91 (by decide +kernel)
theorem ml_X9_143 : Cond.methodLink RX9 143 yX8_clearHouses ∈ lw_good := mem_good 479 (by decide +kernel)
theorem fl_X9_149 : Cond.fieldLink RX9 149 (TX7 4).1 (TX7 4).2.1 (TX7 4).2.2.1 ∈ lw_good := mem_good 162 (by decide +kernel)
theorem fl_X9_146 : Cond.fieldLink RX9 146 (TX7 3).1 (TX7 3).2.1 (TX7 3).2.2.1 ∈ lw_good := mem_good 160 (by decide +kernel)
theorem fl_X9_156 : Cond.fieldLink RX9 156 (TX7 0).1 (TX7 0).2.1 (TX7 0).2.2.1 ∈ lw_good := mem_good 154 (by decide +kernel)
theorem ml_X9_163 : Cond.methodLink RX9 163 yX9_grown ∈ lw_good := mem_good 492 (by decide +kernel)
theorem ml_X9_166 : Cond.methodLink RX9 166 yX9_uncaged ∈ lw_good := mem_good 493 (by decide +kernel)
theorem ml_X9_169 : Cond.methodLink RX9 169 yJ6_bitCount_0f7a4 ∈ lw_good := mem_good 498 (by decide +kernel)
theorem ml_X9_175 : Cond.methodLink RX9 175 yX8_holesAllMeet ∈ lw_good := mem_good 499 (by decide +kernel)
theorem fl_X9_178 : Cond.fieldLink RX9 178 RX9 "TENS" "[I" ∈ lw_good := mem_good 507 (by decide +kernel)
theorem fl_X9_57 : Cond.fieldLink RX9 57 (TX9 7).1 (TX9 7).2.1 (TX9 7).2.2.1 ∈ lw_good := mem_good 296 (by decide +kernel)
theorem ml_X9_181 : Cond.methodLink RX9 181 yX2_listen ∈ lw_good := mem_good 509 (by decide +kernel)
theorem fl_X2_22 : Cond.fieldLink RX2 22 (TX2 2).1 (TX2 2).2.1 (TX2 2).2.2.1 ∈ lw_good := mem_good 229 (by decide +kernel)
theorem fl_X2_26 : Cond.fieldLink RX2 26 (TX2 3).1 (TX2 3).2.1 (TX2 3).2.2.1 ∈ lw_good := mem_good 231 (by decide +kernel)
theorem mn_X2_29 : Cond.methodLinkNest RX2 29 yX9_within "DoubtCatcher" ∈ lw_nest := mem_nest 517 (by decide +kernel)
theorem fl_X2_11 : Cond.fieldLink RX2 11 (TX2 0).1 (TX2 0).2.1 (TX2 0).2.2.1 ∈ lw_good := mem_good 227 (by decide +kernel)
theorem fl_X2_15 : Cond.fieldLink RX2 15 (TX2 1).1 (TX2 1).2.1 (TX2 1).2.2.1 ∈ lw_good := mem_good 228 (by decide +kernel)
theorem ml_X2_18 : Cond.methodLink RX2 18 yX2_compare ∈ lw_good := mem_good 513 (by decide +kernel)
theorem ml_X2_33 : Cond.methodLink RX2 33 yX2_offer ∈ lw_good := mem_good 518 (by decide +kernel)
theorem fn_X2_36 : Cond.fieldLinkNest RX2 36 RX9 "TENS" "[I" "DoubtCatcher" ∈ lw_nest := mem_nest 522 (by decide +kernel)
theorem fl_X9_188 : Cond.fieldLink RX9 188 (TX2 3).1 (TX2 3).2.1 (TX2 3).2.2.1 ∈ lw_good := mem_good 232 (by decide +kernel)
theorem fl_X9_185 : Cond.fieldLink RX9 185 (TX2 2).1 (TX2 2).2.1 (TX2 2).2.2.1 ∈ lw_good := mem_good 230 (by decide +kernel)
theorem fl_X9_43 : Cond.fieldLink RX9 43 (TX9 5).1 (TX9 5).2.1 (TX9 5).2.2.1 ∈ lw_good := mem_good 294 (by decide +kernel)
theorem ml_X9_191 : Cond.methodLink RX9 191 yX6_add ∈ lw_good := mem_good 527 (by decide +kernel)
theorem fl_X6_25 : Cond.fieldLink RX6 25 (TX6 1).1 (TX6 1).2.1 (TX6 1).2.2.1 ∈ lw_good := mem_good 184 (by decide +kernel)
theorem mn_X6_34 : Cond.methodLinkNest RX6 34 yX9_within "DoubtCatcher" ∈ lw_nest := mem_nest 531 (by decide +kernel)
theorem fl_X6_9 : Cond.fieldLink RX6 9 (TX6 0).1 (TX6 0).2.1 (TX6 0).2.2.1 ∈ lw_good := mem_good 183 (by decide +kernel)
theorem fl_X6_21 : Cond.fieldLink RX6 21 (TX6 2).1 (TX6 2).2.1 (TX6 2).2.2.1 ∈ lw_good := mem_good 186 (by decide +kernel)
theorem ml_X6_38 : Cond.methodLink RX6 38 Lib.Math.max.name ∈ lw_good := mem_good 532 (by decide +kernel)
theorem fl_X9_193 : Cond.fieldLink RX9 193 (TX6 1).1 (TX6 1).2.1 (TX6 1).2.2.1 ∈ lw_good := mem_good 185 (by decide +kernel)
theorem ml_X9_194 : Cond.methodLink RX9 194 yX6_clear ∈ lw_good := mem_good 537 (by decide +kernel)
theorem ml_X6_15 : Cond.methodLink RX6 15 yJ7_fill_53178 ∈ lw_good := mem_good 180 (by decide +kernel)
theorem ml_X9_197 : Cond.methodLink RX9 197 yX6_agree ∈ lw_good := mem_good 545 (by decide +kernel)
theorem mn_X6_44 : Cond.methodLinkNest RX6 44 yX9_grown "DoubtCatcher" ∈ lw_nest := mem_nest 549 (by decide +kernel)
theorem fl_X9_50 : Cond.fieldLink RX9 50 (TX9 6).1 (TX9 6).2.1 (TX9 6).2.2.1 ∈ lw_good := mem_good 295 (by decide +kernel)
theorem ml_X9_200 : Cond.methodLink RX9 200 yX1_weigh ∈ lw_good := mem_good 554 (by decide +kernel)
theorem ml_X1_21 : Cond.methodLink RX1 21 yX1_gather ∈ lw_good := mem_good 558 (by decide +kernel)
theorem fl_X1_32 : Cond.fieldLink RX1 32 (TX1 3).1 (TX1 3).2.1 (TX1 3).2.2.1 ∈ lw_good := mem_good 203 (by decide +kernel)
theorem ml_X1_42 : Cond.methodLink RX1 42 yX6_agree ∈ lw_good := mem_good 562 (by decide +kernel)
theorem fl_X1_9 : Cond.fieldLink RX1 9 (TX1 0).1 (TX1 0).2.1 (TX1 0).2.2.1 ∈ lw_good := mem_good 200 (by decide +kernel)
theorem fl_X1_15 : Cond.fieldLink RX1 15 (TX1 1).1 (TX1 1).2.1 (TX1 1).2.2.1 ∈ lw_good := mem_good 201 (by decide +kernel)
theorem fl_X1_25 : Cond.fieldLink RX1 25 (TX1 4).1 (TX1 4).2.1 (TX1 4).2.2.1 ∈ lw_good := mem_good 204 (by decide +kernel)
theorem fl_X1_29 : Cond.fieldLink RX1 29 (TX1 5).1 (TX1 5).2.1 (TX1 5).2.2.1 ∈ lw_good := mem_good 206 (by decide +kernel)
theorem ml_X1_35 : Cond.methodLink RX1 35 yX1_mostAlike ∈ lw_good := mem_good 563 (by decide +kernel)
theorem fl_X1_18 : Cond.fieldLink RX1 18 (TX1 2).1 (TX1 2).2.1 (TX1 2).2.2.1 ∈ lw_good := mem_good 202 (by decide +kernel)
theorem ml_X1_48 : Cond.methodLink RX1 48 yJ7_fill_53178 ∈ lw_good := mem_good 567 (by decide +kernel)
theorem mn_X1_54 : Cond.methodLinkNest RX1 54 yX9_within "DoubtCatcher" ∈ lw_nest := mem_nest 568 (by decide +kernel)
theorem ml_X1_58 : Cond.methodLink RX1 58 Lib.Math.max.name ∈ lw_good := mem_good 569 (by decide +kernel)
theorem ml_X1_39 : Cond.methodLink RX1 39 yX1_breedAll ∈ lw_good := mem_good 570 (by decide +kernel)
theorem mn_X1_64 : Cond.methodLinkNest RX1 64 yX9_grown "DoubtCatcher" ∈ lw_nest := mem_nest 574 (by decide +kernel)
theorem fl_X9_205 : Cond.fieldLink RX9 205 (TX1 5).1 (TX1 5).2.1 (TX1 5).2.2.1 ∈ lw_good := mem_good 207 (by decide +kernel)
theorem fl_X9_204 : Cond.fieldLink RX9 204 (TX1 4).1 (TX1 4).2.1 (TX1 4).2.2.1 ∈ lw_good := mem_good 205 (by decide +kernel)
theorem fl_X9_64 : Cond.fieldLink RX9 64 (TX9 8).1 (TX9 8).2.1 (TX9 8).2.2.1 ∈ lw_good := mem_good 297 (by decide +kernel)
theorem fl_X9_208 : Cond.fieldLink RX9 208 (TX8 4).1 (TX8 4).2.1 (TX8 4).2.2.1 ∈ lw_good := mem_good 84 (by decide +kernel)
theorem ml_X9_211 : Cond.methodLink RX9 211 yX3_follow ∈ lw_good := mem_good 579 (by decide +kernel)
theorem fl_X3_21 : Cond.fieldLink RX3 21 (TX3 3).1 (TX3 3).2.1 (TX3 3).2.2.1 ∈ lw_good := mem_good 251 (by decide +kernel)
theorem fl_X3_25 : Cond.fieldLink RX3 25 (TX3 4).1 (TX3 4).2.1 (TX3 4).2.2.1 ∈ lw_good := mem_good 253 (by decide +kernel)
theorem ml_X3_28 : Cond.methodLink RX3 28 yX3_shutIn ∈ lw_good := mem_good 583 (by decide +kernel)
theorem fl_X3_18 : Cond.fieldLink RX3 18 (TX3 2).1 (TX3 2).2.1 (TX3 2).2.2.1 ∈ lw_good := mem_good 250 (by decide +kernel)
theorem fl_X3_9 : Cond.fieldLink RX3 9 (TX3 0).1 (TX3 0).2.1 (TX3 0).2.2.1 ∈ lw_good := mem_good 248 (by decide +kernel)
theorem fl_X3_15 : Cond.fieldLink RX3 15 (TX3 1).1 (TX3 1).2.1 (TX3 1).2.2.1 ∈ lw_good := mem_good 249 (by decide +kernel)
theorem ml_X3_31 : Cond.methodLink RX3 31 yX3_firstGoing ∈ lw_good := mem_good 587 (by decide +kernel)
theorem ml_X3_35 : Cond.methodLink RX3 35 yX3_widen ∈ lw_good := mem_good 591 (by decide +kernel)
theorem fl_X9_217 : Cond.fieldLink RX9 217 (TX3 4).1 (TX3 4).2.1 (TX3 4).2.2.1 ∈ lw_good := mem_good 254 (by decide +kernel)
theorem fl_X9_214 : Cond.fieldLink RX9 214 (TX3 3).1 (TX3 3).2.1 (TX3 3).2.2.1 ∈ lw_good := mem_good 252 (by decide +kernel)
theorem kl_X9_220 : Cond.constantLong RX9 220 (-1000000000000000002 : Int64) ∈ lw_good := mem_good 599 (by decide +kernel)
theorem ml_X9_226 : Cond.methodLink RX9 226 Lib.MathLoose.abs_long.x ∈ lw_good := mem_good 603 (by decide +kernel)
theorem ml_X9_232 : Cond.methodLink RX9 232 yX9_commonDivisor ∈ lw_good := mem_good 606 (by decide +kernel)
theorem ml_X9_222 : Cond.methodLink RX9 222 yX9_power ∈ lw_good := mem_good 600 (by decide +kernel)
theorem kc_X9_236 : Cond.constant RX9 236 (65537 : Int32) ∈ lw_good := mem_good 613 (by decide +kernel)
theorem ml_X9_237 : Cond.methodLink RX9 237 yX0_draw ∈ lw_good := mem_good 614 (by decide +kernel)
theorem fn_X0_30 : Cond.fieldLinkNest RX0 30 RX9 "YEAR_SIGNS" "[I" "DoubtCatcher" ∈ lw_nest := mem_nest 618 (by decide +kernel)
theorem ml_X0_34 : Cond.methodLink RX0 34 yJ9_floorMod_7cf53 ∈ lw_good := mem_good 620 (by decide +kernel)
theorem fl_X9_241 : Cond.fieldLink RX9 241 (TX0 0).1 (TX0 0).2.1 (TX0 0).2.2.1 ∈ lw_good := mem_good 135 (by decide +kernel)
theorem ml_X9_244 : Cond.methodLink RX9 244 yX8_whyNot ∈ lw_good := mem_good 623 (by decide +kernel)
theorem ml_X9_248 : Cond.methodLink RX9 248 yX8_take ∈ lw_good := mem_good 624 (by decide +kernel)
theorem fl_X9_70 : Cond.fieldLink RX9 70 (TX9 9).1 (TX9 9).2.1 (TX9 9).2.2.1 ∈ lw_good := mem_good 298 (by decide +kernel)
theorem fl_X9_252 : Cond.fieldLink RX9 252 (TX4 0).1 (TX4 0).2.1 (TX4 0).2.2.1 ∈ lw_good := mem_good 278 (by decide +kernel)
theorem fl_X9_255 : Cond.fieldLink RX9 255 (TX4 1).1 (TX4 1).2.1 (TX4 1).2.2.1 ∈ lw_good := mem_good 280 (by decide +kernel)
theorem ml_X9_256 : Cond.methodLink RX9 256 yX6_become ∈ lw_good := mem_good 629 (by decide +kernel)
theorem ml_X6_28 : Cond.methodLink RX6 28 arraycopyName ∈ lw_good := mem_good 633 (by decide +kernel)
theorem fl_X9_258 : Cond.fieldLink RX9 258 (TX4 2).1 (TX4 2).2.1 (TX4 2).2.2.1 ∈ lw_good := mem_good 281 (by decide +kernel)
theorem ml_X10_84 : Cond.methodLink RX10 84 yX10_isHouse ∈ lw_good := mem_good 756 (by decide +kernel)
theorem kl_X10_78 : Cond.constantLong RX10 78 (7 : Int64) ∈ lw_good := mem_good 759 (by decide +kernel)
theorem ml_X10_80 : Cond.methodLink RX10 80 yX10_in ∈ lw_good := mem_good 760 (by decide +kernel)
theorem kl_X10_88 : Cond.constantLong RX10 88 (99 : Int64) ∈ lw_good := mem_good 763 (by decide +kernel)
theorem kl_X10_90 : Cond.constantLong RX10 90 (9 : Int64) ∈ lw_good := mem_good 764 (by decide +kernel)
theorem fl_X10_7 : Cond.fieldLink RX10 7 (TX10 0).1 (TX10 0).2.1 (TX10 0).2.2.1 ∈ lw_good := mem_good 648 (by decide +kernel)
theorem fl_X10_13 : Cond.fieldLink RX10 13 (TX10 1).1 (TX10 1).2.1 (TX10 1).2.2.1 ∈ lw_good := mem_good 649 (by decide +kernel)
theorem fl_X10_16 : Cond.fieldLink RX10 16 (TX10 2).1 (TX10 2).2.1 (TX10 2).2.2.1 ∈ lw_good := mem_good 650 (by decide +kernel)
theorem fl_X10_19 : Cond.fieldLink RX10 19 (TX10 3).1 (TX10 3).2.1 (TX10 3).2.2.1 ∈ lw_good := mem_good 651 (by decide +kernel)
theorem ml_X10_96 : Cond.methodLink RX10 96 yX10_bore ∈ lw_good := mem_good 769 (by decide +kernel)
theorem fl_X10_22 : Cond.fieldLink RX10 22 (TX10 4).1 (TX10 4).2.1 (TX10 4).2.2.1 ∈ lw_good := mem_good 652 (by decide +kernel)
theorem ml_X10_92 : Cond.methodLink RX10 92 yX10_with ∈ lw_good := mem_good 773 (by decide +kernel)
theorem ml_X10_100 : Cond.methodLink RX10 100 yX10_ones ∈ lw_good := mem_good 776 (by decide +kernel)
theorem fl_X10_74 : Cond.fieldLink RX10 74 (TX10 5).1 (TX10 5).2.1 (TX10 5).2.2.1 ∈ lw_good := mem_good 653 (by decide +kernel)
theorem kl_X10_104 : Cond.constantLong RX10 104 (33 : Int64) ∈ lw_good := mem_good 787 (by decide +kernel)
theorem kl_X10_106 : Cond.constantLong RX10 106 (126 : Int64) ∈ lw_good := mem_good 788 (by decide +kernel)
theorem fl_X10_108 : Cond.fieldLink RX10 108 (TX10 12).1 (TX10 12).2.1 (TX10 12).2.2.1 ∈ lw_good := mem_good 660 (by decide +kernel)
theorem fl_X10_31 : Cond.fieldLink RX10 31 (TX10 11).1 (TX10 11).2.1 (TX10 11).2.2.1 ∈ lw_good := mem_good 659 (by decide +kernel)
theorem fl_X10_111 : Cond.fieldLink RX10 111 (TX10 16).1 (TX10 16).2.1 (TX10 16).2.2.1 ∈ lw_good := mem_good 664 (by decide +kernel)
theorem ml_X10_130 : Cond.methodLink RX10 130 yX10_end ∈ lw_good := mem_good 814 (by decide +kernel)
theorem ml_X10_118 : Cond.methodLink RX10 118 yX10_isName ∈ lw_good := mem_good 801 (by decide +kernel)
theorem kl_X10_114 : Cond.constantLong RX10 114 (65 : Int64) ∈ lw_good := mem_good 804 (by decide +kernel)
theorem kl_X10_116 : Cond.constantLong RX10 116 (72 : Int64) ∈ lw_good := mem_good 805 (by decide +kernel)
theorem fl_X10_40 : Cond.fieldLink RX10 40 (TX10 15).1 (TX10 15).2.1 (TX10 15).2.2.1 ∈ lw_good := mem_good 663 (by decide +kernel)
theorem ml_X10_121 : Cond.methodLink RX10 121 yX10_close ∈ lw_good := mem_good 806 (by decide +kernel)
theorem fl_X10_34 : Cond.fieldLink RX10 34 (TX10 13).1 (TX10 13).2.1 (TX10 13).2.2.1 ∈ lw_good := mem_good 661 (by decide +kernel)
theorem fl_X10_37 : Cond.fieldLink RX10 37 (TX10 14).1 (TX10 14).2.1 (TX10 14).2.2.1 ∈ lw_good := mem_good 662 (by decide +kernel)
theorem ml_X10_127 : Cond.methodLink RX10 127 yX10_deed ∈ lw_good := mem_good 810 (by decide +kernel)
theorem ml_X10_124 : Cond.methodLink RX10 124 yX10_begin ∈ lw_good := mem_good 797 (by decide +kernel)
theorem kl_X10_202 : Cond.constantLong RX10 202 (2 : Int64) ∈ lw_good := mem_good 822 (by decide +kernel)
theorem ml_X10_204 : Cond.methodLink RX10 204 yX10_refusal ∈ lw_good := mem_good 823 (by decide +kernel)
theorem ml_X10_193 : Cond.methodLink RX10 193 yX10_keepNow ∈ lw_good := mem_good 827 (by decide +kernel)
theorem fl_X10_46 : Cond.fieldLink RX10 46 (TX10 19).1 (TX10 19).2.1 (TX10 19).2.2.1 ∈ lw_good := mem_good 667 (by decide +kernel)
theorem fl_X10_143 : Cond.fieldLink RX10 143 (TX10 6).1 (TX10 6).2.1 (TX10 6).2.2.1 ∈ lw_good := mem_good 654 (by decide +kernel)
theorem fl_X10_134 : Cond.fieldLink RX10 134 (TX10 7).1 (TX10 7).2.1 (TX10 7).2.2.1 ∈ lw_good := mem_good 655 (by decide +kernel)
theorem ml_X10_196 : Cond.methodLink RX10 196 yX10_fault ∈ lw_good := mem_good 831 (by decide +kernel)
theorem ml_X10_199 : Cond.methodLink RX10 199 yX10_goWeeks ∈ lw_good := mem_good 832 (by decide +kernel)
theorem fl_X10_179 : Cond.fieldLink RX10 179 (TX10 20).1 (TX10 20).2.1 (TX10 20).2.2.1 ∈ lw_good := mem_good 668 (by decide +kernel)
theorem fl_X10_182 : Cond.fieldLink RX10 182 (TX10 21).1 (TX10 21).2.1 (TX10 21).2.2.1 ∈ lw_good := mem_good 669 (by decide +kernel)
theorem fl_X10_170 : Cond.fieldLink RX10 170 (TX10 22).1 (TX10 22).2.1 (TX10 22).2.2.1 ∈ lw_good := mem_good 670 (by decide +kernel)
theorem fl_X10_176 : Cond.fieldLink RX10 176 (TX10 23).1 (TX10 23).2.1 (TX10 23).2.2.1 ∈ lw_good := mem_good 671 (by decide +kernel)
theorem fl_X10_146 : Cond.fieldLink RX10 146 (TX10 17).1 (TX10 17).2.1 (TX10 17).2.2.1 ∈ lw_good := mem_good 665 (by decide +kernel)
theorem ml_X10_185 : Cond.methodLink RX10 185 yX10_whyNot ∈ lw_good := mem_good 836 (by decide +kernel)
theorem ml_X10_189 : Cond.methodLink RX10 189 yX10_goOne ∈ lw_good := mem_good 840 (by decide +kernel)
theorem ml_X10_162 : Cond.methodLink RX10 162 yX10_clear ∈ lw_good := mem_good 844 (by decide +kernel)
theorem ml_X10_166 : Cond.methodLink RX10 166 yX10_happen ∈ lw_good := mem_good 848 (by decide +kernel)
theorem ml_X10_137 : Cond.methodLink RX10 137 yX10_less ∈ lw_good := mem_good 852 (by decide +kernel)
theorem ml_X10_149 : Cond.methodLink RX10 149 yX10_has ∈ lw_good := mem_good 855 (by decide +kernel)
theorem ml_X10_156 : Cond.methodLink RX10 156 yX10_breed ∈ lw_good := mem_good 858 (by decide +kernel)
theorem ml_X10_140 : Cond.methodLink RX10 140 yX10_grown ∈ lw_good := mem_good 862 (by decide +kernel)
theorem ml_X10_159 : Cond.methodLink RX10 159 yX10_go ∈ lw_good := mem_good 865 (by decide +kernel)
theorem fl_X10_43 : Cond.fieldLink RX10 43 (TX10 18).1 (TX10 18).2.1 (TX10 18).2.2.1 ∈ lw_good := mem_good 666 (by decide +kernel)
theorem ml_X10_153 : Cond.methodLink RX10 153 yX10_goal ∈ lw_good := mem_good 869 (by decide +kernel)
theorem ml_X10_173 : Cond.methodLink RX10 173 yX10_leastOf ∈ lw_good := mem_good 873 (by decide +kernel)
theorem ml_X10_207 : Cond.methodLink RX10 207 yX10_back ∈ lw_good := mem_good 876 (by decide +kernel)
theorem kl_X10_210 : Cond.constantLong RX10 210 (3 : Int64) ∈ lw_good := mem_good 884 (by decide +kernel)
theorem ml_X10_212 : Cond.methodLink RX10 212 yX10_ofHouse ∈ lw_good := mem_good 885 (by decide +kernel)
theorem kl_X10_218 : Cond.constantLong RX10 218 (4 : Int64) ∈ lw_good := mem_good 893 (by decide +kernel)
theorem ml_X10_220 : Cond.methodLink RX10 220 yX10_ofTown ∈ lw_good := mem_good 894 (by decide +kernel)
theorem ml_X10_215 : Cond.methodLink RX10 215 yX10_allDoubts ∈ lw_good := mem_good 898 (by decide +kernel)
theorem ml_X10_223 : Cond.methodLink RX10 223 yX10_isWatched ∈ lw_good := mem_good 918 (by decide +kernel)
theorem ml_X10_232 : Cond.methodLink RX10 232 yX10_isRow ∈ lw_good := mem_good 926 (by decide +kernel)
theorem ml_X10_241 : Cond.methodLink RX10 241 yX10_leastRow ∈ lw_good := mem_good 936 (by decide +kernel)
theorem fl_X10_55 : Cond.fieldLink RX10 55 (TX10 26).1 (TX10 26).2.1 (TX10 26).2.2.1 ∈ lw_good := mem_good 674 (by decide +kernel)
theorem ml_X10_226 : Cond.methodLink RX10 226 yX10_inOne ∈ lw_good := mem_good 940 (by decide +kernel)
theorem fl_X10_49 : Cond.fieldLink RX10 49 (TX10 24).1 (TX10 24).2.1 (TX10 24).2.2.1 ∈ lw_good := mem_good 672 (by decide +kernel)
theorem ml_X10_229 : Cond.methodLink RX10 229 yX10_inTwo ∈ lw_good := mem_good 944 (by decide +kernel)
theorem fl_X10_52 : Cond.fieldLink RX10 52 (TX10 25).1 (TX10 25).2.1 (TX10 25).2.2.1 ∈ lw_good := mem_good 673 (by decide +kernel)
theorem ml_X10_238 : Cond.methodLink RX10 238 yX10_lengthFrom ∈ lw_good := mem_good 932 (by decide +kernel)
theorem ml_X10_235 : Cond.methodLink RX10 235 yX10_digit ∈ lw_good := mem_good 929 (by decide +kernel)
theorem kl_X10_244 : Cond.constantLong RX10 244 (40 : Int64) ∈ lw_good := mem_good 952 (by decide +kernel)
theorem fl_X10_246 : Cond.fieldLink RX10 246 (TX10 10).1 (TX10 10).2.1 (TX10 10).2.2.1 ∈ lw_good := mem_good 658 (by decide +kernel)
theorem fl_X10_25 : Cond.fieldLink RX10 25 (TX10 8).1 (TX10 8).2.1 (TX10 8).2.2.1 ∈ lw_good := mem_good 656 (by decide +kernel)
theorem fl_X10_28 : Cond.fieldLink RX10 28 (TX10 9).1 (TX10 9).2.1 (TX10 9).2.2.1 ∈ lw_good := mem_good 657 (by decide +kernel)
theorem ml_X10_252 : Cond.methodLink RX10 252 yX10_isFit ∈ lw_good := mem_good 961 (by decide +kernel)
theorem ml_X10_249 : Cond.methodLink RX10 249 yX10_bred ∈ lw_good := mem_good 965 (by decide +kernel)
theorem ml_X10_255 : Cond.methodLink RX10 255 yX10_mostLeft ∈ lw_good := mem_good 972 (by decide +kernel)
theorem fl_X10_58 : Cond.fieldLink RX10 58 (TX10 27).1 (TX10 27).2.1 (TX10 27).2.2.1 ∈ lw_good := mem_good 675 (by decide +kernel)
theorem fl_X10_61 : Cond.fieldLink RX10 61 (TX10 28).1 (TX10 28).2.1 (TX10 28).2.2.1 ∈ lw_good := mem_good 676 (by decide +kernel)
theorem ml_X10_262 : Cond.methodLink RX10 262 yX10_sureGoing ∈ lw_good := mem_good 984 (by decide +kernel)
theorem ml_X10_258 : Cond.methodLink RX10 258 yX10_isSure ∈ lw_good := mem_good 988 (by decide +kernel)
theorem ml_X10_265 : Cond.methodLink RX10 265 yX10_oneGoingMore ∈ lw_good := mem_good 980 (by decide +kernel)
theorem fl_X10_64 : Cond.fieldLink RX10 64 (TX10 29).1 (TX10 29).2.1 (TX10 29).2.2.1 ∈ lw_good := mem_good 677 (by decide +kernel)
theorem kl_X10_268 : Cond.constantLong RX10 268 (16 : Int64) ∈ lw_good := mem_good 996 (by decide +kernel)
theorem kl_X10_270 : Cond.constantLong RX10 270 (-1000000000000000002 : Int64) ∈ lw_good := mem_good 997 (by decide +kernel)
theorem kl_X10_276 : Cond.constantLong RX10 276 (10 : Int64) ∈ lw_good := mem_good 1001 (by decide +kernel)
theorem ml_X10_278 : Cond.methodLink RX10 278 yX10_power ∈ lw_good := mem_good 1002 (by decide +kernel)
theorem ml_X10_282 : Cond.methodLink RX10 282 yX10_size ∈ lw_good := mem_good 1005 (by decide +kernel)
theorem ml_X10_272 : Cond.methodLink RX10 272 yX10_lowest ∈ lw_good := mem_good 998 (by decide +kernel)
theorem kl_X10_286 : Cond.constantLong RX10 286 (9999 : Int64) ∈ lw_good := mem_good 1012 (by decide +kernel)
theorem kl_X10_288 : Cond.constantLong RX10 288 (75 : Int64) ∈ lw_good := mem_good 1013 (by decide +kernel)
theorem kl_X10_290 : Cond.constantLong RX10 290 (74 : Int64) ∈ lw_good := mem_good 1014 (by decide +kernel)
theorem kl_X10_292 : Cond.constantLong RX10 292 (65537 : Int64) ∈ lw_good := mem_good 1015 (by decide +kernel)
theorem ml_X10_294 : Cond.methodLink RX10 294 yX10_actBy ∈ lw_good := mem_good 1016 (by decide +kernel)
theorem fl_X10_301 : Cond.fieldLink RX10 301 (TX10 32).1 (TX10 32).2.1 (TX10 32).2.2.1 ∈ lw_good := mem_good 680 (by decide +kernel)
theorem fl_X10_297 : Cond.fieldLink RX10 297 (TX10 33).1 (TX10 33).2.1 (TX10 33).2.2.1 ∈ lw_good := mem_good 681 (by decide +kernel)
theorem ml_X10_311 : Cond.methodLink RX10 311 yX10_passAll ∈ lw_good := mem_good 1023 (by decide +kernel)
theorem ml_X10_304 : Cond.methodLink RX10 304 yX10_pass ∈ lw_good := mem_good 1027 (by decide +kernel)
theorem fl_X10_67 : Cond.fieldLink RX10 67 (TX10 30).1 (TX10 30).2.1 (TX10 30).2.2.1 ∈ lw_good := mem_good 678 (by decide +kernel)
theorem ml_X10_307 : Cond.methodLink RX10 307 yX10_passRow ∈ lw_good := mem_good 1031 (by decide +kernel)
theorem fl_X10_70 : Cond.fieldLink RX10 70 (TX10 31).1 (TX10 31).2.1 (TX10 31).2.2.1 ∈ lw_good := mem_good 679 (by decide +kernel)
theorem kl_X10_314 : Cond.constantLong RX10 314 (100 : Int64) ∈ lw_good := mem_good 1043 (by decide +kernel)
theorem kl_X10_316 : Cond.constantLong RX10 316 (179 : Int64) ∈ lw_good := mem_good 1044 (by decide +kernel)
theorem kl_X10_318 : Cond.constantLong RX10 318 (17 : Int64) ∈ lw_good := mem_good 1045 (by decide +kernel)
theorem ms_X9_isHouse : MS yX9_isHouse cX9_isHouse 1 (some .boolean) 1 := ⟨mem_good 325 (by decide +kernel), mem_good 46 (by decide +kernel), mem_good 326 (by decide +kernel), ⟨by decide, by decide, by decide +kernel⟩, by decide⟩
theorem ms_X9_within : MS yX9_within cX9_within 3 (some .boolean) 3 := ⟨mem_good 328 (by decide +kernel), mem_good 46 (by decide +kernel), mem_good 329 (by decide +kernel), ⟨by decide, by decide, by decide +kernel⟩, by decide⟩
theorem mv_X9_house : MV yX9_house cX9_house 7 (some .int) 5 := ⟨mem_good 321 (by decide +kernel), mem_good 322 (by decide +kernel), mem_good 46 (by decide +kernel), mem_good 323 (by decide +kernel), ⟨by decide, by decide, by decide +kernel⟩, by decide⟩
theorem mv_X8_hasHole : MV yX8_hasHole cX8_hasHole 3 (some .boolean) 2 := ⟨mem_good 335 (by decide +kernel), mem_good 336 (by decide +kernel), mem_good 47 (by decide +kernel), mem_good 337 (by decide +kernel), ⟨by decide, by decide, by decide +kernel⟩, by decide⟩
theorem ms_J6_bitCount_0f7a4 : MS yJ6_bitCount_0f7a4 cJ6_bitCount_0f7a4 1 (some .int) 1 := ⟨mem_good 348 (by decide +kernel), mem_good 58 (by decide +kernel), mem_good 349 (by decide +kernel), ⟨by decide, by decide, by decide +kernel⟩, by decide⟩
theorem mv_X8_countHoles : MV yX8_countHoles cX8_countHoles 3 (some .int) 0 := ⟨mem_good 344 (by decide +kernel), mem_good 345 (by decide +kernel), mem_good 47 (by decide +kernel), mem_good 346 (by decide +kernel), ⟨by decide, by decide, by decide +kernel⟩, by decide⟩
theorem mv_X8_turnHole : MV yX8_turnHole cX8_turnHole 3 none 2 := ⟨mem_good 340 (by decide +kernel), mem_good 341 (by decide +kernel), mem_good 47 (by decide +kernel), mem_good 342 (by decide +kernel), ⟨by decide, by decide, by decide +kernel⟩, by decide⟩
theorem mv_X9_hole : MV yX9_hole cX9_hole 4 (some .int) 3 := ⟨mem_good 331 (by decide +kernel), mem_good 332 (by decide +kernel), mem_good 46 (by decide +kernel), mem_good 333 (by decide +kernel), ⟨by decide, by decide, by decide +kernel⟩, by decide⟩
theorem mv_X9_bag : MV yX9_bag cX9_bag 3 (some .int) 1 := ⟨mem_good 354 (by decide +kernel), mem_good 355 (by decide +kernel), mem_good 46 (by decide +kernel), mem_good 356 (by decide +kernel), ⟨by decide, by decide, by decide +kernel⟩, by decide⟩
theorem mv_X5_add : MV yX5_add cX5_add 2 (some .boolean) 1 := ⟨mem_good 362 (by decide +kernel), mem_good 363 (by decide +kernel), mem_good 48 (by decide +kernel), mem_good 364 (by decide +kernel), ⟨by decide, by decide, by decide +kernel⟩, by decide⟩
theorem mv_X9_say : MV yX9_say cX9_say 2 (some .int) 1 := ⟨mem_good 358 (by decide +kernel), mem_good 359 (by decide +kernel), mem_good 46 (by decide +kernel), mem_good 360 (by decide +kernel), ⟨by decide, by decide, by decide +kernel⟩, by decide⟩
theorem mv_X9_wipe : MV yX9_wipe cX9_wipe 2 (some .int) 0 := ⟨mem_good 366 (by decide +kernel), mem_good 367 (by decide +kernel), mem_good 46 (by decide +kernel), mem_good 368 (by decide +kernel), ⟨by decide, by decide, by decide +kernel⟩, by decide⟩
theorem ms_X9_isLetter : MS yX9_isLetter cX9_isLetter 1 (some .boolean) 1 := ⟨mem_good 381 (by decide +kernel), mem_good 46 (by decide +kernel), mem_good 382 (by decide +kernel), ⟨by decide, by decide, by decide +kernel⟩, by decide⟩
theorem ms_X5_isDeed : MS yX5_isDeed cX5_isDeed 1 (some .boolean) 1 := ⟨mem_good 384 (by decide +kernel), mem_good 48 (by decide +kernel), mem_good 385 (by decide +kernel), ⟨by decide, by decide, by decide +kernel⟩, by decide⟩
theorem ms_X5_awaitedBehind : MS yX5_awaitedBehind cX5_awaitedBehind 2 (some .int) 2 := ⟨mem_good 378 (by decide +kernel), mem_good 48 (by decide +kernel), mem_good 379 (by decide +kernel), ⟨by decide, by decide, by decide +kernel⟩, by decide⟩
theorem mv_X5_faultPlace : MV yX5_faultPlace cX5_faultPlace 3 (some .int) 0 := ⟨mem_good 374 (by decide +kernel), mem_good 375 (by decide +kernel), mem_good 48 (by decide +kernel), mem_good 376 (by decide +kernel), ⟨by decide, by decide, by decide +kernel⟩, by decide⟩
theorem mv_X9_fault : MV yX9_fault cX9_fault 1 (some .int) 0 := ⟨mem_good 370 (by decide +kernel), mem_good 371 (by decide +kernel), mem_good 46 (by decide +kernel), mem_good 372 (by decide +kernel), ⟨by decide, by decide, by decide +kernel⟩, by decide⟩
theorem mv_X8_become : MV yX8_become cX8_become 2 none 1 := ⟨mem_good 395 (by decide +kernel), mem_good 396 (by decide +kernel), mem_good 47 (by decide +kernel), mem_good 397 (by decide +kernel), ⟨by decide, by decide, by decide +kernel⟩, by decide⟩
theorem mv_X8_clearHouses : MV yX8_clearHouses cX8_clearHouses 3 (some .int) 0 := ⟨mem_good 406 (by decide +kernel), mem_good 407 (by decide +kernel), mem_good 47 (by decide +kernel), mem_good 408 (by decide +kernel), ⟨by decide, by decide, by decide +kernel⟩, by decide⟩
theorem mv_X5_signAt : MV yX5_signAt cX5_signAt 2 (some .int) 1 := ⟨mem_good 414 (by decide +kernel), mem_good 415 (by decide +kernel), mem_good 48 (by decide +kernel), mem_good 416 (by decide +kernel), ⟨by decide, by decide, by decide +kernel⟩, by decide⟩
theorem mv_X5_houseAt : MV yX5_houseAt cX5_houseAt 3 (some .int) 1 := ⟨mem_good 419 (by decide +kernel), mem_good 420 (by decide +kernel), mem_good 48 (by decide +kernel), mem_good 421 (by decide +kernel), ⟨by decide, by decide, by decide +kernel⟩, by decide⟩
theorem mv_X0_read : MV yX0_read cX0_read 4 (some .int) 2 := ⟨mem_good 410 (by decide +kernel), mem_good 411 (by decide +kernel), mem_good 49 (by decide +kernel), mem_good 412 (by decide +kernel), ⟨by decide, by decide, by decide +kernel⟩, by decide⟩
theorem mv_X8_whyNot : MV yX8_whyNot cX8_whyNot 3 (some .int) 1 := ⟨mem_good 425 (by decide +kernel), mem_good 426 (by decide +kernel), mem_good 47 (by decide +kernel), mem_good 427 (by decide +kernel), ⟨by decide, by decide, by decide +kernel⟩, by decide⟩
theorem mv_X8_quietestOf : MV yX8_quietestOf cX8_quietestOf 5 (some .int) 1 := ⟨mem_good 456 (by decide +kernel), mem_good 3 (by decide +kernel), mem_good 47 (by decide +kernel), mem_good 457 (by decide +kernel), ⟨by decide, by decide, by decide +kernel⟩, by decide⟩
theorem mv_X8_wander : MV yX8_wander cX8_wander 3 none 0 := ⟨mem_good 452 (by decide +kernel), mem_good 2 (by decide +kernel), mem_good 47 (by decide +kernel), mem_good 453 (by decide +kernel), ⟨by decide, by decide, by decide +kernel⟩, by decide⟩
theorem ms_X9_grown : MS yX9_grown cX9_grown 2 (some .int) 2 := ⟨mem_good 441 (by decide +kernel), mem_good 46 (by decide +kernel), mem_good 442 (by decide +kernel), ⟨by decide, by decide, by decide +kernel⟩, by decide⟩
theorem ms_X9_uncaged : MS yX9_uncaged cX9_uncaged 2 (some .int) 2 := ⟨mem_good 445 (by decide +kernel), mem_good 46 (by decide +kernel), mem_good 446 (by decide +kernel), ⟨by decide, by decide, by decide +kernel⟩, by decide⟩
theorem mv_X8_passWeek : MV yX8_passWeek cX8_passWeek 3 none 0 := ⟨mem_good 438 (by decide +kernel), mem_good 1 (by decide +kernel), mem_good 47 (by decide +kernel), mem_good 439 (by decide +kernel), ⟨by decide, by decide, by decide +kernel⟩, by decide⟩
theorem mv_X8_take : MV yX8_take cX8_take 3 none 1 := ⟨mem_good 429 (by decide +kernel), mem_good 430 (by decide +kernel), mem_good 47 (by decide +kernel), mem_good 431 (by decide +kernel), ⟨by decide, by decide, by decide +kernel⟩, by decide⟩
theorem mv_X7_noteRid : MV yX7_noteRid cX7_noteRid 4 none 2 := ⟨mem_good 461 (by decide +kernel), mem_good 4 (by decide +kernel), mem_good 50 (by decide +kernel), mem_good 462 (by decide +kernel), ⟨by decide, by decide, by decide +kernel⟩, by decide⟩
theorem mv_X7_follow : MV yX7_follow cX7_follow 9 none 3 := ⟨mem_good 402 (by decide +kernel), mem_good 403 (by decide +kernel), mem_good 50 (by decide +kernel), mem_good 404 (by decide +kernel), ⟨by decide, by decide, by decide +kernel⟩, by decide⟩
theorem mv_X9_tryPad : MV yX9_tryPad cX9_tryPad 1 (some .int) 0 := ⟨mem_good 392 (by decide +kernel), mem_good 0 (by decide +kernel), mem_good 46 (by decide +kernel), mem_good 393 (by decide +kernel), ⟨by decide, by decide, by decide +kernel⟩, by decide⟩
theorem mv_X9_judge : MV yX9_judge cX9_judge 3 (some .int) 1 := ⟨mem_good 387 (by decide +kernel), mem_good 388 (by decide +kernel), mem_good 46 (by decide +kernel), mem_good 389 (by decide +kernel), ⟨by decide, by decide, by decide +kernel⟩, by decide⟩
theorem mv_X8_ofHouse : MV yX8_ofHouse cX8_ofHouse 3 (some .int) 2 := ⟨mem_good 468 (by decide +kernel), mem_good 469 (by decide +kernel), mem_good 47 (by decide +kernel), mem_good 470 (by decide +kernel), ⟨by decide, by decide, by decide +kernel⟩, by decide⟩
theorem mv_X9_behind : MV yX9_behind cX9_behind 4 (some .int) 2 := ⟨mem_good 464 (by decide +kernel), mem_good 465 (by decide +kernel), mem_good 46 (by decide +kernel), mem_good 466 (by decide +kernel), ⟨by decide, by decide, by decide +kernel⟩, by decide⟩
theorem mv_X8_allDoubts : MV yX8_allDoubts cX8_allDoubts 3 (some .int) 0 := ⟨mem_good 476 (by decide +kernel), mem_good 477 (by decide +kernel), mem_good 47 (by decide +kernel), mem_good 478 (by decide +kernel), ⟨by decide, by decide, by decide +kernel⟩, by decide⟩
theorem mv_X9_town : MV yX9_town cX9_town 3 (some .int) 1 := ⟨mem_good 472 (by decide +kernel), mem_good 473 (by decide +kernel), mem_good 46 (by decide +kernel), mem_good 474 (by decide +kernel), ⟨by decide, by decide, by decide +kernel⟩, by decide⟩
theorem mv_X9_rid : MV yX9_rid cX9_rid 3 (some .int) 1 := ⟨mem_good 481 (by decide +kernel), mem_good 482 (by decide +kernel), mem_good 46 (by decide +kernel), mem_good 483 (by decide +kernel), ⟨by decide, by decide, by decide +kernel⟩, by decide⟩
theorem mv_X9_done : MV yX9_done cX9_done 2 (some .int) 0 := ⟨mem_good 485 (by decide +kernel), mem_good 486 (by decide +kernel), mem_good 46 (by decide +kernel), mem_good 487 (by decide +kernel), ⟨by decide, by decide, by decide +kernel⟩, by decide⟩
theorem mv_X9_alone : MV yX9_alone cX9_alone 8 (some .int) 4 := ⟨mem_good 489 (by decide +kernel), mem_good 490 (by decide +kernel), mem_good 46 (by decide +kernel), mem_good 491 (by decide +kernel), ⟨by decide, by decide, by decide +kernel⟩, by decide⟩
theorem mv_X8_holesAllMeet : MV yX8_holesAllMeet cX8_holesAllMeet 3 (some .boolean) 1 := ⟨mem_good 500 (by decide +kernel), mem_good 501 (by decide +kernel), mem_good 47 (by decide +kernel), mem_good 502 (by decide +kernel), ⟨by decide, by decide, by decide +kernel⟩, by decide⟩
theorem mv_X9_terriers : MV yX9_terriers cX9_terriers 6 (some .int) 1 := ⟨mem_good 495 (by decide +kernel), mem_good 496 (by decide +kernel), mem_good 46 (by decide +kernel), mem_good 497 (by decide +kernel), ⟨by decide, by decide, by decide +kernel⟩, by decide⟩
theorem mv_X2_offer : MV yX2_offer cX2_offer 4 none 3 := ⟨mem_good 520 (by decide +kernel), mem_good 6 (by decide +kernel), mem_good 54 (by decide +kernel), mem_good 521 (by decide +kernel), ⟨by decide, by decide, by decide +kernel⟩, by decide⟩
theorem mv_X2_compare : MV yX2_compare cX2_compare 5 none 3 := ⟨mem_good 515 (by decide +kernel), mem_good 5 (by decide +kernel), mem_good 54 (by decide +kernel), mem_good 516 (by decide +kernel), ⟨by decide, by decide, by decide +kernel⟩, by decide⟩
theorem mv_X2_listen : MV yX2_listen cX2_listen 8 none 3 := ⟨mem_good 510 (by decide +kernel), mem_good 511 (by decide +kernel), mem_good 54 (by decide +kernel), mem_good 512 (by decide +kernel), ⟨by decide, by decide, by decide +kernel⟩, by decide⟩
theorem mv_X9_heard : MV yX9_heard cX9_heard 6 (some .int) 4 := ⟨mem_good 504 (by decide +kernel), mem_good 505 (by decide +kernel), mem_good 46 (by decide +kernel), mem_good 506 (by decide +kernel), ⟨by decide, by decide, by decide +kernel⟩, by decide⟩
theorem mv_X6_add : MV yX6_add cX6_add 3 (some .boolean) 2 := ⟨mem_good 528 (by decide +kernel), mem_good 529 (by decide +kernel), mem_good 51 (by decide +kernel), mem_good 530 (by decide +kernel), ⟨by decide, by decide, by decide +kernel⟩, by decide⟩
theorem mv_X9_gnawed : MV yX9_gnawed cX9_gnawed 3 (some .int) 2 := ⟨mem_good 524 (by decide +kernel), mem_good 525 (by decide +kernel), mem_good 46 (by decide +kernel), mem_good 526 (by decide +kernel), ⟨by decide, by decide, by decide +kernel⟩, by decide⟩
theorem ms_J7_fill_53178 : MS yJ7_fill_53178 cJ7_fill_53178 4 none 2 := ⟨mem_good 181 (by decide +kernel), mem_good 52 (by decide +kernel), mem_good 182 (by decide +kernel), ⟨by decide, by decide, by decide +kernel⟩, by decide⟩
theorem mv_X6_clear : MV yX6_clear cX6_clear 1 none 0 := ⟨mem_good 538 (by decide +kernel), mem_good 539 (by decide +kernel), mem_good 51 (by decide +kernel), mem_good 540 (by decide +kernel), ⟨by decide, by decide, by decide +kernel⟩, by decide⟩
theorem mv_X9_forget : MV yX9_forget cX9_forget 2 (some .int) 0 := ⟨mem_good 534 (by decide +kernel), mem_good 535 (by decide +kernel), mem_good 46 (by decide +kernel), mem_good 536 (by decide +kernel), ⟨by decide, by decide, by decide +kernel⟩, by decide⟩
theorem mv_X6_agree : MV yX6_agree cX6_agree 5 (some .boolean) 2 := ⟨mem_good 546 (by decide +kernel), mem_good 547 (by decide +kernel), mem_good 51 (by decide +kernel), mem_good 548 (by decide +kernel), ⟨by decide, by decide, by decide +kernel⟩, by decide⟩
theorem mv_X9_fits : MV yX9_fits cX9_fits 5 (some .int) 1 := ⟨mem_good 542 (by decide +kernel), mem_good 543 (by decide +kernel), mem_good 46 (by decide +kernel), mem_good 544 (by decide +kernel), ⟨by decide, by decide, by decide +kernel⟩, by decide⟩
theorem mv_X1_gather : MV yX1_gather cX1_gather 4 none 1 := ⟨mem_good 560 (by decide +kernel), mem_good 7 (by decide +kernel), mem_good 53 (by decide +kernel), mem_good 561 (by decide +kernel), ⟨by decide, by decide, by decide +kernel⟩, by decide⟩
theorem mv_X1_mostAlike : MV yX1_mostAlike cX1_mostAlike 4 (some .int) 0 := ⟨mem_good 565 (by decide +kernel), mem_good 8 (by decide +kernel), mem_good 53 (by decide +kernel), mem_good 566 (by decide +kernel), ⟨by decide, by decide, by decide +kernel⟩, by decide⟩
theorem mv_X1_breedAll : MV yX1_breedAll cX1_breedAll 2 none 0 := ⟨mem_good 572 (by decide +kernel), mem_good 9 (by decide +kernel), mem_good 53 (by decide +kernel), mem_good 573 (by decide +kernel), ⟨by decide, by decide, by decide +kernel⟩, by decide⟩
theorem mv_X1_weigh : MV yX1_weigh cX1_weigh 4 none 1 := ⟨mem_good 555 (by decide +kernel), mem_good 556 (by decide +kernel), mem_good 53 (by decide +kernel), mem_good 557 (by decide +kernel), ⟨by decide, by decide, by decide +kernel⟩, by decide⟩
theorem mv_X9_ask : MV yX9_ask cX9_ask 2 (some .int) 1 := ⟨mem_good 551 (by decide +kernel), mem_good 552 (by decide +kernel), mem_good 46 (by decide +kernel), mem_good 553 (by decide +kernel), ⟨by decide, by decide, by decide +kernel⟩, by decide⟩
theorem mv_X3_shutIn : MV yX3_shutIn cX3_shutIn 3 none 0 := ⟨mem_good 585 (by decide +kernel), mem_good 10 (by decide +kernel), mem_good 55 (by decide +kernel), mem_good 586 (by decide +kernel), ⟨by decide, by decide, by decide +kernel⟩, by decide⟩
theorem mv_X3_firstGoing : MV yX3_firstGoing cX3_firstGoing 4 (some .int) 2 := ⟨mem_good 589 (by decide +kernel), mem_good 11 (by decide +kernel), mem_good 55 (by decide +kernel), mem_good 590 (by decide +kernel), ⟨by decide, by decide, by decide +kernel⟩, by decide⟩
theorem mv_X3_widen : MV yX3_widen cX3_widen 5 (some .boolean) 0 := ⟨mem_good 593 (by decide +kernel), mem_good 12 (by decide +kernel), mem_good 55 (by decide +kernel), mem_good 594 (by decide +kernel), ⟨by decide, by decide, by decide +kernel⟩, by decide⟩
theorem mv_X3_follow : MV yX3_follow cX3_follow 6 none 3 := ⟨mem_good 580 (by decide +kernel), mem_good 581 (by decide +kernel), mem_good 55 (by decide +kernel), mem_good 582 (by decide +kernel), ⟨by decide, by decide, by decide +kernel⟩, by decide⟩
theorem mv_X9_chase : MV yX9_chase cX9_chase 4 (some .int) 3 := ⟨mem_good 576 (by decide +kernel), mem_good 577 (by decide +kernel), mem_good 46 (by decide +kernel), mem_good 578 (by decide +kernel), ⟨by decide, by decide, by decide +kernel⟩, by decide⟩
theorem ms_X9_commonDivisor : MS yX9_commonDivisor cX9_commonDivisor 11 (some .long) 2 := ⟨mem_good 607 (by decide +kernel), mem_good 46 (by decide +kernel), mem_good 608 (by decide +kernel), ⟨by decide, by decide, by decide +kernel⟩, by decide⟩
theorem ms_X9_power : MS yX9_power cX9_power 6 (some .long) 2 := ⟨mem_good 601 (by decide +kernel), mem_good 46 (by decide +kernel), mem_good 602 (by decide +kernel), ⟨by decide, by decide, by decide +kernel⟩, by decide⟩
theorem mv_X9_ever : MV yX9_ever cX9_ever 15 (some .long) 4 := ⟨mem_good 596 (by decide +kernel), mem_good 597 (by decide +kernel), mem_good 46 (by decide +kernel), mem_good 598 (by decide +kernel), ⟨by decide, by decide, by decide +kernel⟩, by decide⟩
theorem ms_J9_floorMod_7cf53 : MS yJ9_floorMod_7cf53 cJ9_floorMod_7cf53 3 (some .int) 2 := ⟨mem_good 621 (by decide +kernel), mem_good 60 (by decide +kernel), mem_good 622 (by decide +kernel), ⟨by decide, by decide, by decide +kernel⟩, by decide⟩
theorem mv_X0_draw : MV yX0_draw cX0_draw 3 none 1 := ⟨mem_good 615 (by decide +kernel), mem_good 616 (by decide +kernel), mem_good 49 (by decide +kernel), mem_good 617 (by decide +kernel), ⟨by decide, by decide, by decide +kernel⟩, by decide⟩
theorem mv_X9_year : MV yX9_year cX9_year 6 (some .int) 3 := ⟨mem_good 610 (by decide +kernel), mem_good 611 (by decide +kernel), mem_good 46 (by decide +kernel), mem_good 612 (by decide +kernel), ⟨by decide, by decide, by decide +kernel⟩, by decide⟩
theorem mv_X6_become : MV yX6_become cX6_become 2 none 1 := ⟨mem_good 630 (by decide +kernel), mem_good 631 (by decide +kernel), mem_good 51 (by decide +kernel), mem_good 632 (by decide +kernel), ⟨by decide, by decide, by decide +kernel⟩, by decide⟩
theorem mv_X9_image : MV yX9_image cX9_image 2 (some .int) 1 := ⟨mem_good 626 (by decide +kernel), mem_good 627 (by decide +kernel), mem_good 46 (by decide +kernel), mem_good 628 (by decide +kernel), ⟨by decide, by decide, by decide +kernel⟩, by decide⟩
theorem mv_X9_restore : MV yX9_restore cX9_restore 2 (some .int) 1 := ⟨mem_good 635 (by decide +kernel), mem_good 636 (by decide +kernel), mem_good 46 (by decide +kernel), mem_good 637 (by decide +kernel), ⟨by decide, by decide, by decide +kernel⟩, by decide⟩
theorem mv_X9_told : MV yX9_told cX9_told 3 (some .int) 1 := ⟨mem_good 639 (by decide +kernel), mem_good 640 (by decide +kernel), mem_good 46 (by decide +kernel), mem_good 641 (by decide +kernel), ⟨by decide, by decide, by decide +kernel⟩, by decide⟩
theorem ms_X10_in : MS yX10_in cX10_in 6 (some .boolean) 3 := ⟨mem_good 761 (by decide +kernel), mem_good 57 (by decide +kernel), mem_good 762 (by decide +kernel), ⟨by decide, by decide, by decide +kernel⟩, by decide⟩
theorem ms_X10_isHouse : MS yX10_isHouse cX10_isHouse 1 (some .boolean) 1 := ⟨mem_good 757 (by decide +kernel), mem_good 57 (by decide +kernel), mem_good 758 (by decide +kernel), ⟨by decide, by decide, by decide +kernel⟩, by decide⟩
theorem mv_X10_house : MV yX10_house cX10_house 7 (some .int) 5 := ⟨mem_good 753 (by decide +kernel), mem_good 754 (by decide +kernel), mem_good 57 (by decide +kernel), mem_good 755 (by decide +kernel), ⟨by decide, by decide, by decide +kernel⟩, by decide⟩
theorem ms_X10_with : MS yX10_with cX10_with 3 (some .int) 3 := ⟨mem_good 774 (by decide +kernel), mem_good 57 (by decide +kernel), mem_good 775 (by decide +kernel), ⟨by decide, by decide, by decide +kernel⟩, by decide⟩
theorem mv_X10_bore : MV yX10_bore cX10_bore 4 none 3 := ⟨mem_good 771 (by decide +kernel), mem_good 13 (by decide +kernel), mem_good 57 (by decide +kernel), mem_good 772 (by decide +kernel), ⟨by decide, by decide, by decide +kernel⟩, by decide⟩
theorem ms_X10_ones : MS yX10_ones cX10_ones 3 (some .int) 1 := ⟨mem_good 777 (by decide +kernel), mem_good 57 (by decide +kernel), mem_good 778 (by decide +kernel), ⟨by decide, by decide, by decide +kernel⟩, by decide⟩
theorem mv_X10_hole : MV yX10_hole cX10_hole 6 (some .int) 3 := ⟨mem_good 766 (by decide +kernel), mem_good 767 (by decide +kernel), mem_good 57 (by decide +kernel), mem_good 768 (by decide +kernel), ⟨by decide, by decide, by decide +kernel⟩, by decide⟩
theorem mv_X10_bag : MV yX10_bag cX10_bag 3 (some .int) 1 := ⟨mem_good 780 (by decide +kernel), mem_good 781 (by decide +kernel), mem_good 57 (by decide +kernel), mem_good 782 (by decide +kernel), ⟨by decide, by decide, by decide +kernel⟩, by decide⟩
theorem mv_X10_say : MV yX10_say cX10_say 2 (some .int) 1 := ⟨mem_good 784 (by decide +kernel), mem_good 785 (by decide +kernel), mem_good 57 (by decide +kernel), mem_good 786 (by decide +kernel), ⟨by decide, by decide, by decide +kernel⟩, by decide⟩
theorem mv_X10_wipe : MV yX10_wipe cX10_wipe 2 (some .int) 0 := ⟨mem_good 790 (by decide +kernel), mem_good 791 (by decide +kernel), mem_good 57 (by decide +kernel), mem_good 792 (by decide +kernel), ⟨by decide, by decide, by decide +kernel⟩, by decide⟩
theorem ms_X10_isName : MS yX10_isName cX10_isName 1 (some .boolean) 1 := ⟨mem_good 802 (by decide +kernel), mem_good 57 (by decide +kernel), mem_good 803 (by decide +kernel), ⟨by decide, by decide, by decide +kernel⟩, by decide⟩
theorem mv_X10_close : MV yX10_close cX10_close 2 (some .int) 1 := ⟨mem_good 808 (by decide +kernel), mem_good 15 (by decide +kernel), mem_good 57 (by decide +kernel), mem_good 809 (by decide +kernel), ⟨by decide, by decide, by decide +kernel⟩, by decide⟩
theorem mv_X10_end : MV yX10_end cX10_end 3 (some .int) 2 := ⟨mem_good 816 (by decide +kernel), mem_good 17 (by decide +kernel), mem_good 57 (by decide +kernel), mem_good 817 (by decide +kernel), ⟨by decide, by decide, by decide +kernel⟩, by decide⟩
theorem mv_X10_deed : MV yX10_deed cX10_deed 2 (some .int) 1 := ⟨mem_good 812 (by decide +kernel), mem_good 16 (by decide +kernel), mem_good 57 (by decide +kernel), mem_good 813 (by decide +kernel), ⟨by decide, by decide, by decide +kernel⟩, by decide⟩
theorem mv_X10_begin : MV yX10_begin cX10_begin 2 (some .int) 1 := ⟨mem_good 799 (by decide +kernel), mem_good 14 (by decide +kernel), mem_good 57 (by decide +kernel), mem_good 800 (by decide +kernel), ⟨by decide, by decide, by decide +kernel⟩, by decide⟩
theorem mv_X10_fault : MV yX10_fault cX10_fault 3 (some .int) 0 := ⟨mem_good 794 (by decide +kernel), mem_good 795 (by decide +kernel), mem_good 57 (by decide +kernel), mem_good 796 (by decide +kernel), ⟨by decide, by decide, by decide +kernel⟩, by decide⟩
theorem mv_X10_keepNow : MV yX10_keepNow cX10_keepNow 2 none 0 := ⟨mem_good 829 (by decide +kernel), mem_good 19 (by decide +kernel), mem_good 57 (by decide +kernel), mem_good 830 (by decide +kernel), ⟨by decide, by decide, by decide +kernel⟩, by decide⟩
theorem mv_X10_whyNot : MV yX10_whyNot cX10_whyNot 4 (some .int) 3 := ⟨mem_good 838 (by decide +kernel), mem_good 21 (by decide +kernel), mem_good 57 (by decide +kernel), mem_good 839 (by decide +kernel), ⟨by decide, by decide, by decide +kernel⟩, by decide⟩
theorem mv_X10_clear : MV yX10_clear cX10_clear 3 (some .int) 0 := ⟨mem_good 846 (by decide +kernel), mem_good 23 (by decide +kernel), mem_good 57 (by decide +kernel), mem_good 847 (by decide +kernel), ⟨by decide, by decide, by decide +kernel⟩, by decide⟩
theorem ms_X10_less : MS yX10_less cX10_less 2 (some .int) 2 := ⟨mem_good 853 (by decide +kernel), mem_good 57 (by decide +kernel), mem_good 854 (by decide +kernel), ⟨by decide, by decide, by decide +kernel⟩, by decide⟩
theorem ms_X10_has : MS yX10_has cX10_has 2 (some .boolean) 2 := ⟨mem_good 856 (by decide +kernel), mem_good 57 (by decide +kernel), mem_good 857 (by decide +kernel), ⟨by decide, by decide, by decide +kernel⟩, by decide⟩
theorem ms_X10_grown : MS yX10_grown cX10_grown 2 (some .int) 2 := ⟨mem_good 863 (by decide +kernel), mem_good 57 (by decide +kernel), mem_good 864 (by decide +kernel), ⟨by decide, by decide, by decide +kernel⟩, by decide⟩
theorem mv_X10_breed : MV yX10_breed cX10_breed 4 none 0 := ⟨mem_good 860 (by decide +kernel), mem_good 25 (by decide +kernel), mem_good 57 (by decide +kernel), mem_good 861 (by decide +kernel), ⟨by decide, by decide, by decide +kernel⟩, by decide⟩
theorem mv_X10_goal : MV yX10_goal cX10_goal 4 (some .int) 1 := ⟨mem_good 871 (by decide +kernel), mem_good 27 (by decide +kernel), mem_good 57 (by decide +kernel), mem_good 872 (by decide +kernel), ⟨by decide, by decide, by decide +kernel⟩, by decide⟩
theorem mv_X10_go : MV yX10_go cX10_go 4 none 0 := ⟨mem_good 867 (by decide +kernel), mem_good 26 (by decide +kernel), mem_good 57 (by decide +kernel), mem_good 868 (by decide +kernel), ⟨by decide, by decide, by decide +kernel⟩, by decide⟩
theorem mv_X10_happen : MV yX10_happen cX10_happen 4 none 3 := ⟨mem_good 850 (by decide +kernel), mem_good 24 (by decide +kernel), mem_good 57 (by decide +kernel), mem_good 851 (by decide +kernel), ⟨by decide, by decide, by decide +kernel⟩, by decide⟩
theorem ms_X10_leastOf : MS yX10_leastOf cX10_leastOf 3 (some .int) 1 := ⟨mem_good 874 (by decide +kernel), mem_good 57 (by decide +kernel), mem_good 875 (by decide +kernel), ⟨by decide, by decide, by decide +kernel⟩, by decide⟩
theorem mv_X10_goOne : MV yX10_goOne cX10_goOne 4 none 1 := ⟨mem_good 842 (by decide +kernel), mem_good 22 (by decide +kernel), mem_good 57 (by decide +kernel), mem_good 843 (by decide +kernel), ⟨by decide, by decide, by decide +kernel⟩, by decide⟩
theorem mv_X10_goWeeks : MV yX10_goWeeks cX10_goWeeks 3 none 0 := ⟨mem_good 834 (by decide +kernel), mem_good 20 (by decide +kernel), mem_good 57 (by decide +kernel), mem_good 835 (by decide +kernel), ⟨by decide, by decide, by decide +kernel⟩, by decide⟩
theorem mv_X10_refusal : MV yX10_refusal cX10_refusal 1 (some .int) 0 := ⟨mem_good 825 (by decide +kernel), mem_good 18 (by decide +kernel), mem_good 57 (by decide +kernel), mem_good 826 (by decide +kernel), ⟨by decide, by decide, by decide +kernel⟩, by decide⟩
theorem mv_X10_back : MV yX10_back cX10_back 3 (some .int) 1 := ⟨mem_good 878 (by decide +kernel), mem_good 28 (by decide +kernel), mem_good 57 (by decide +kernel), mem_good 879 (by decide +kernel), ⟨by decide, by decide, by decide +kernel⟩, by decide⟩
theorem mv_X10_judge : MV yX10_judge cX10_judge 3 (some .int) 1 := ⟨mem_good 819 (by decide +kernel), mem_good 820 (by decide +kernel), mem_good 57 (by decide +kernel), mem_good 821 (by decide +kernel), ⟨by decide, by decide, by decide +kernel⟩, by decide⟩
theorem mv_X10_ofHouse : MV yX10_ofHouse cX10_ofHouse 3 (some .int) 2 := ⟨mem_good 887 (by decide +kernel), mem_good 29 (by decide +kernel), mem_good 57 (by decide +kernel), mem_good 888 (by decide +kernel), ⟨by decide, by decide, by decide +kernel⟩, by decide⟩
theorem mv_X10_behind : MV yX10_behind cX10_behind 4 (some .int) 2 := ⟨mem_good 881 (by decide +kernel), mem_good 882 (by decide +kernel), mem_good 57 (by decide +kernel), mem_good 883 (by decide +kernel), ⟨by decide, by decide, by decide +kernel⟩, by decide⟩
theorem mv_X10_allDoubts : MV yX10_allDoubts cX10_allDoubts 3 (some .int) 0 := ⟨mem_good 900 (by decide +kernel), mem_good 31 (by decide +kernel), mem_good 57 (by decide +kernel), mem_good 901 (by decide +kernel), ⟨by decide, by decide, by decide +kernel⟩, by decide⟩
theorem mv_X10_ofTown : MV yX10_ofTown cX10_ofTown 2 (some .int) 1 := ⟨mem_good 896 (by decide +kernel), mem_good 30 (by decide +kernel), mem_good 57 (by decide +kernel), mem_good 897 (by decide +kernel), ⟨by decide, by decide, by decide +kernel⟩, by decide⟩
theorem mv_X10_town : MV yX10_town cX10_town 3 (some .int) 1 := ⟨mem_good 890 (by decide +kernel), mem_good 891 (by decide +kernel), mem_good 57 (by decide +kernel), mem_good 892 (by decide +kernel), ⟨by decide, by decide, by decide +kernel⟩, by decide⟩
theorem mv_X10_rid : MV yX10_rid cX10_rid 3 (some .int) 1 := ⟨mem_good 903 (by decide +kernel), mem_good 904 (by decide +kernel), mem_good 57 (by decide +kernel), mem_good 905 (by decide +kernel), ⟨by decide, by decide, by decide +kernel⟩, by decide⟩
theorem mv_X10_done : MV yX10_done cX10_done 2 (some .int) 0 := ⟨mem_good 907 (by decide +kernel), mem_good 908 (by decide +kernel), mem_good 57 (by decide +kernel), mem_good 909 (by decide +kernel), ⟨by decide, by decide, by decide +kernel⟩, by decide⟩
theorem mv_X10_alone : MV yX10_alone cX10_alone 9 (some .int) 4 := ⟨mem_good 911 (by decide +kernel), mem_good 912 (by decide +kernel), mem_good 57 (by decide +kernel), mem_good 913 (by decide +kernel), ⟨by decide, by decide, by decide +kernel⟩, by decide⟩
theorem mv_X10_isWatched : MV yX10_isWatched cX10_isWatched 4 (some .boolean) 1 := ⟨mem_good 920 (by decide +kernel), mem_good 32 (by decide +kernel), mem_good 57 (by decide +kernel), mem_good 921 (by decide +kernel), ⟨by decide, by decide, by decide +kernel⟩, by decide⟩
theorem mv_X10_terriers : MV yX10_terriers cX10_terriers 4 (some .int) 1 := ⟨mem_good 915 (by decide +kernel), mem_good 916 (by decide +kernel), mem_good 57 (by decide +kernel), mem_good 917 (by decide +kernel), ⟨by decide, by decide, by decide +kernel⟩, by decide⟩
theorem ms_X10_isRow : MS yX10_isRow cX10_isRow 4 (some .boolean) 2 := ⟨mem_good 927 (by decide +kernel), mem_good 57 (by decide +kernel), mem_good 928 (by decide +kernel), ⟨by decide, by decide, by decide +kernel⟩, by decide⟩
theorem mv_X10_inOne : MV yX10_inOne cX10_inOne 6 (some .int) 3 := ⟨mem_good 942 (by decide +kernel), mem_good 35 (by decide +kernel), mem_good 57 (by decide +kernel), mem_good 943 (by decide +kernel), ⟨by decide, by decide, by decide +kernel⟩, by decide⟩
theorem mv_X10_inTwo : MV yX10_inTwo cX10_inTwo 6 (some .int) 3 := ⟨mem_good 946 (by decide +kernel), mem_good 36 (by decide +kernel), mem_good 57 (by decide +kernel), mem_good 947 (by decide +kernel), ⟨by decide, by decide, by decide +kernel⟩, by decide⟩
theorem mv_X10_leastRow : MV yX10_leastRow cX10_leastRow 11 (some .int) 1 := ⟨mem_good 938 (by decide +kernel), mem_good 34 (by decide +kernel), mem_good 57 (by decide +kernel), mem_good 939 (by decide +kernel), ⟨by decide, by decide, by decide +kernel⟩, by decide⟩
theorem mv_X10_lengthFrom : MV yX10_lengthFrom cX10_lengthFrom 8 (some .int) 3 := ⟨mem_good 934 (by decide +kernel), mem_good 33 (by decide +kernel), mem_good 57 (by decide +kernel), mem_good 935 (by decide +kernel), ⟨by decide, by decide, by decide +kernel⟩, by decide⟩
theorem ms_X10_digit : MS yX10_digit cX10_digit 5 (some .int) 3 := ⟨mem_good 930 (by decide +kernel), mem_good 57 (by decide +kernel), mem_good 931 (by decide +kernel), ⟨by decide, by decide, by decide +kernel⟩, by decide⟩
theorem mv_X10_heard : MV yX10_heard cX10_heard 7 (some .int) 4 := ⟨mem_good 923 (by decide +kernel), mem_good 924 (by decide +kernel), mem_good 57 (by decide +kernel), mem_good 925 (by decide +kernel), ⟨by decide, by decide, by decide +kernel⟩, by decide⟩
theorem mv_X10_gnawed : MV yX10_gnawed cX10_gnawed 3 (some .int) 2 := ⟨mem_good 949 (by decide +kernel), mem_good 950 (by decide +kernel), mem_good 57 (by decide +kernel), mem_good 951 (by decide +kernel), ⟨by decide, by decide, by decide +kernel⟩, by decide⟩
theorem mv_X10_forget : MV yX10_forget cX10_forget 2 (some .int) 0 := ⟨mem_good 954 (by decide +kernel), mem_good 955 (by decide +kernel), mem_good 57 (by decide +kernel), mem_good 956 (by decide +kernel), ⟨by decide, by decide, by decide +kernel⟩, by decide⟩
theorem ms_X10_bred : MS yX10_bred cX10_bred 4 (some .int) 2 := ⟨mem_good 966 (by decide +kernel), mem_good 57 (by decide +kernel), mem_good 967 (by decide +kernel), ⟨by decide, by decide, by decide +kernel⟩, by decide⟩
theorem mv_X10_isFit : MV yX10_isFit cX10_isFit 4 (some .boolean) 1 := ⟨mem_good 963 (by decide +kernel), mem_good 37 (by decide +kernel), mem_good 57 (by decide +kernel), mem_good 964 (by decide +kernel), ⟨by decide, by decide, by decide +kernel⟩, by decide⟩
theorem mv_X10_fits : MV yX10_fits cX10_fits 4 (some .int) 1 := ⟨mem_good 958 (by decide +kernel), mem_good 959 (by decide +kernel), mem_good 57 (by decide +kernel), mem_good 960 (by decide +kernel), ⟨by decide, by decide, by decide +kernel⟩, by decide⟩
theorem mv_X10_mostLeft : MV yX10_mostLeft cX10_mostLeft 5 (some .int) 1 := ⟨mem_good 974 (by decide +kernel), mem_good 38 (by decide +kernel), mem_good 57 (by decide +kernel), mem_good 975 (by decide +kernel), ⟨by decide, by decide, by decide +kernel⟩, by decide⟩
theorem mv_X10_ask : MV yX10_ask cX10_ask 6 (some .int) 1 := ⟨mem_good 969 (by decide +kernel), mem_good 970 (by decide +kernel), mem_good 57 (by decide +kernel), mem_good 971 (by decide +kernel), ⟨by decide, by decide, by decide +kernel⟩, by decide⟩
theorem mv_X10_isSure : MV yX10_isSure cX10_isSure 7 (some .boolean) 3 := ⟨mem_good 990 (by decide +kernel), mem_good 41 (by decide +kernel), mem_good 57 (by decide +kernel), mem_good 991 (by decide +kernel), ⟨by decide, by decide, by decide +kernel⟩, by decide⟩
theorem mv_X10_sureGoing : MV yX10_sureGoing cX10_sureGoing 7 (some .int) 3 := ⟨mem_good 986 (by decide +kernel), mem_good 40 (by decide +kernel), mem_good 57 (by decide +kernel), mem_good 987 (by decide +kernel), ⟨by decide, by decide, by decide +kernel⟩, by decide⟩
theorem mv_X10_oneGoingMore : MV yX10_oneGoingMore cX10_oneGoingMore 5 (some .boolean) 1 := ⟨mem_good 982 (by decide +kernel), mem_good 39 (by decide +kernel), mem_good 57 (by decide +kernel), mem_good 983 (by decide +kernel), ⟨by decide, by decide, by decide +kernel⟩, by decide⟩
theorem mv_X10_chase : MV yX10_chase cX10_chase 6 (some .int) 3 := ⟨mem_good 977 (by decide +kernel), mem_good 978 (by decide +kernel), mem_good 57 (by decide +kernel), mem_good 979 (by decide +kernel), ⟨by decide, by decide, by decide +kernel⟩, by decide⟩
theorem ms_X10_power : MS yX10_power cX10_power 6 (some .long) 2 := ⟨mem_good 1003 (by decide +kernel), mem_good 57 (by decide +kernel), mem_good 1004 (by decide +kernel), ⟨by decide, by decide, by decide +kernel⟩, by decide⟩
theorem ms_X10_size : MS yX10_size cX10_size 2 (some .long) 1 := ⟨mem_good 1006 (by decide +kernel), mem_good 57 (by decide +kernel), mem_good 1007 (by decide +kernel), ⟨by decide, by decide, by decide +kernel⟩, by decide⟩
theorem ms_X10_lowest : MS yX10_lowest cX10_lowest 11 (some .long) 3 := ⟨mem_good 999 (by decide +kernel), mem_good 57 (by decide +kernel), mem_good 1000 (by decide +kernel), ⟨by decide, by decide, by decide +kernel⟩, by decide⟩
theorem mv_X10_ever : MV yX10_ever cX10_ever 11 (some .long) 4 := ⟨mem_good 993 (by decide +kernel), mem_good 994 (by decide +kernel), mem_good 57 (by decide +kernel), mem_good 995 (by decide +kernel), ⟨by decide, by decide, by decide +kernel⟩, by decide⟩
theorem ms_X10_actBy : MS yX10_actBy cX10_actBy 1 (some .int) 1 := ⟨mem_good 1017 (by decide +kernel), mem_good 57 (by decide +kernel), mem_good 1018 (by decide +kernel), ⟨by decide, by decide, by decide +kernel⟩, by decide⟩
theorem mv_X10_year : MV yX10_year cX10_year 9 (some .int) 3 := ⟨mem_good 1009 (by decide +kernel), mem_good 1010 (by decide +kernel), mem_good 57 (by decide +kernel), mem_good 1011 (by decide +kernel), ⟨by decide, by decide, by decide +kernel⟩, by decide⟩
theorem mv_X10_pass : MV yX10_pass cX10_pass 3 (some .int) 1 := ⟨mem_good 1029 (by decide +kernel), mem_good 43 (by decide +kernel), mem_good 57 (by decide +kernel), mem_good 1030 (by decide +kernel), ⟨by decide, by decide, by decide +kernel⟩, by decide⟩
theorem mv_X10_passRow : MV yX10_passRow cX10_passRow 4 none 2 := ⟨mem_good 1033 (by decide +kernel), mem_good 44 (by decide +kernel), mem_good 57 (by decide +kernel), mem_good 1034 (by decide +kernel), ⟨by decide, by decide, by decide +kernel⟩, by decide⟩
theorem mv_X10_passAll : MV yX10_passAll cX10_passAll 1 none 0 := ⟨mem_good 1025 (by decide +kernel), mem_good 42 (by decide +kernel), mem_good 57 (by decide +kernel), mem_good 1026 (by decide +kernel), ⟨by decide, by decide, by decide +kernel⟩, by decide⟩
theorem mv_X10_image : MV yX10_image cX10_image 2 (some .int) 1 := ⟨mem_good 1020 (by decide +kernel), mem_good 1021 (by decide +kernel), mem_good 57 (by decide +kernel), mem_good 1022 (by decide +kernel), ⟨by decide, by decide, by decide +kernel⟩, by decide⟩
theorem mv_X10_restore : MV yX10_restore cX10_restore 2 (some .int) 1 := ⟨mem_good 1036 (by decide +kernel), mem_good 1037 (by decide +kernel), mem_good 57 (by decide +kernel), mem_good 1038 (by decide +kernel), ⟨by decide, by decide, by decide +kernel⟩, by decide⟩
theorem mv_X10_told : MV yX10_told cX10_told 2 (some .int) 1 := ⟨mem_good 1040 (by decide +kernel), mem_good 1041 (by decide +kernel), mem_good 57 (by decide +kernel), mem_good 1042 (by decide +kernel), ⟨by decide, by decide, by decide +kernel⟩, by decide⟩
end
section
def tb_X9_isHouse : List (Nat × Instr × Nat) := [(0, .iload_n 0, 1), (1, .ifCond .lt 13, 3), (4, .iload_n 0, 1), (5, .bipush 8, 2), (7, .if_icmp .ge 7, 3), (10, .iconst 1, 1), (11, .goto 4, 3), (14, .iconst 0, 1), (15, .ireturn, 1)]
set_option maxRecDepth 100000 in
theorem dk_X9_isHouse : dec_ok cX9_isHouse tb_X9_isHouse = true := by decide +kernel
def tb_X9_within : List (Nat × Instr × Nat) := [(0, .iload_n 0, 1), (1, .iload_n 1, 1), (2, .if_icmp .lt 12, 3), (5, .iload_n 0, 1), (6, .iload_n 2, 1), (7, .if_icmp .gt 7, 3), (10, .iconst 1, 1), (11, .goto 4, 3), (14, .iconst 0, 1), (15, .ireturn, 1)]
set_option maxRecDepth 100000 in
theorem dk_X9_within : dec_ok cX9_within tb_X9_within = true := by decide +kernel
def tb_X9_house : List (Nat × Instr × Nat) := [(0, .iload_n 1, 1), (1, .invokestatic 75, 3), (4, .ifCond .ne 5, 3), (7, .iconst (-1), 1), (8, .ireturn, 1), (9, .iload_n 2, 1), (10, .iconst 0, 1), (11, .bipush 99, 2), (13, .invokestatic 79, 3), (16, .ifCond .eq 35, 3), (19, .iload_n 3, 1), (20, .iconst 0, 1), (21, .bipush 9, 2), (23, .invokestatic 79, 3), (26, .ifCond .eq 25, 3), (29, .iload 4, 2), (31, .iconst 0, 1), (32, .bipush 9, 2), (34, .invokestatic 79, 3), (37, .ifCond .eq 14, 3), (40, .iload 5, 2), (42, .iconst 0, 1), (43, .bipush 9, 2), (45, .invokestatic 79, 3), (48, .ifCond .ne 6, 3), (51, .bipush (-2), 2), (53, .ireturn, 1), (54, .aload_n 0, 1), (55, .getfield 10, 3), (58, .getfield 83, 3), (61, .iload_n 1, 1), (62, .iaload, 1), (63, .istore 6, 2), (65, .aload_n 0, 1), (66, .getfield 10, 3), (69, .getfield 83, 3), (72, .iload_n 1, 1), (73, .iload_n 2, 1), (74, .iastore, 1), (75, .aload_n 0, 1), (76, .getfield 10, 3), (79, .getfield 87, 3), (82, .iload_n 1, 1), (83, .iload_n 3, 1), (84, .iastore, 1), (85, .aload_n 0, 1), (86, .getfield 10, 3), (89, .getfield 90, 3), (92, .iload_n 1, 1), (93, .iload 4, 2), (95, .iastore, 1), (96, .aload_n 0, 1), (97, .getfield 10, 3), (100, .getfield 93, 3), (103, .iload_n 1, 1), (104, .iload 5, 2), (106, .iastore, 1), (107, .iload 6, 2), (109, .ireturn, 1)]
set_option maxRecDepth 100000 in
theorem dk_X9_house : dec_ok cX9_house tb_X9_house = true := by decide +kernel
def tb_X8_hasHole : List (Nat × Instr × Nat) := [(0, .iload_n 1, 1), (1, .invokestatic 46, 3), (4, .ifCond .eq 21, 3), (7, .aload_n 0, 1), (8, .getfield 24, 3), (11, .iload_n 1, 1), (12, .iaload, 1), (13, .iload_n 2, 1), (14, .ishr, 1), (15, .iconst 1, 1), (16, .iand, 1), (17, .iconst 1, 1), (18, .if_icmp .ne 7, 3), (21, .iconst 1, 1), (22, .goto 4, 3), (25, .iconst 0, 1), (26, .ireturn, 1)]
set_option maxRecDepth 100000 in
theorem dk_X8_hasHole : dec_ok cX8_hasHole tb_X8_hasHole = true := by decide +kernel
def tb_J6_bitCount_0f7a4 : List (Nat × Instr × Nat) := [(0, .iload_n 0, 1), (1, .iload_n 0, 1), (2, .iconst 1, 1), (3, .iushr, 1), (4, .ldc_w 265, 3), (7, .iand, 1), (8, .isub, 1), (9, .istore_n 0, 1), (10, .iload_n 0, 1), (11, .ldc_w 266, 3), (14, .iand, 1), (15, .iload_n 0, 1), (16, .iconst 2, 1), (17, .iushr, 1), (18, .ldc_w 266, 3), (21, .iand, 1), (22, .iadd, 1), (23, .istore_n 0, 1), (24, .iload_n 0, 1), (25, .iload_n 0, 1), (26, .iconst 4, 1), (27, .iushr, 1), (28, .iadd, 1), (29, .ldc_w 267, 3), (32, .iand, 1), (33, .istore_n 0, 1), (34, .iload_n 0, 1), (35, .iload_n 0, 1), (36, .bipush 8, 2), (38, .iushr, 1), (39, .iadd, 1), (40, .istore_n 0, 1), (41, .iload_n 0, 1), (42, .iload_n 0, 1), (43, .bipush 16, 2), (45, .iushr, 1), (46, .iadd, 1), (47, .istore_n 0, 1), (48, .iload_n 0, 1), (49, .bipush 63, 2), (51, .iand, 1), (52, .ireturn, 1)]
set_option maxRecDepth 100000 in
theorem dk_J6_bitCount_0f7a4 : dec_ok cJ6_bitCount_0f7a4 tb_J6_bitCount_0f7a4 = true := by decide +kernel
def tb_X8_countHoles : List (Nat × Instr × Nat) := [(0, .iconst 0, 1), (1, .istore_n 1, 1), (2, .iconst 0, 1), (3, .istore_n 2, 1), (4, .iload_n 2, 1), (5, .bipush 8, 2), (7, .if_icmp .ge 21, 3), (10, .iload_n 1, 1), (11, .aload_n 0, 1), (12, .getfield 24, 3), (15, .iload_n 2, 1), (16, .iaload, 1), (17, .invokestatic 50, 3), (20, .iadd, 1), (21, .istore_n 1, 1), (22, .iinc 2 1, 3), (25, .goto (-21), 3), (28, .iload_n 1, 1), (29, .iconst 2, 1), (30, .idiv, 1), (31, .ireturn, 1)]
set_option maxRecDepth 100000 in
theorem dk_X8_countHoles : dec_ok cX8_countHoles tb_X8_countHoles = true := by decide +kernel
def tb_X8_turnHole : List (Nat × Instr × Nat) := [(0, .iload_n 1, 1), (1, .invokestatic 46, 3), (4, .ifCond .eq 34, 3), (7, .iload_n 2, 1), (8, .invokestatic 46, 3), (11, .ifCond .eq 27, 3), (14, .aload_n 0, 1), (15, .getfield 24, 3), (18, .iload_n 1, 1), (19, .dup2, 1), (20, .iaload, 1), (21, .iconst 1, 1), (22, .iload_n 2, 1), (23, .ishl, 1), (24, .ixor, 1), (25, .iastore, 1), (26, .aload_n 0, 1), (27, .getfield 24, 3), (30, .iload_n 2, 1), (31, .dup2, 1), (32, .iaload, 1), (33, .iconst 1, 1), (34, .iload_n 1, 1), (35, .ishl, 1), (36, .ixor, 1), (37, .iastore, 1), (38, .return_, 1)]
set_option maxRecDepth 100000 in
theorem dk_X8_turnHole : dec_ok cX8_turnHole tb_X8_turnHole = true := by decide +kernel
def tb_X9_hole : List (Nat × Instr × Nat) := [(0, .iload_n 1, 1), (1, .invokestatic 75, 3), (4, .ifCond .eq 15, 3), (7, .iload_n 2, 1), (8, .invokestatic 75, 3), (11, .ifCond .eq 8, 3), (14, .iload_n 1, 1), (15, .iload_n 2, 1), (16, .if_icmp .ne 5, 3), (19, .iconst (-1), 1), (20, .ireturn, 1), (21, .aload_n 0, 1), (22, .getfield 10, 3), (25, .iload_n 1, 1), (26, .iload_n 2, 1), (27, .invokevirtual 96, 3), (30, .iload_n 3, 1), (31, .if_icmp .eq 12, 3), (34, .aload_n 0, 1), (35, .getfield 10, 3), (38, .iload_n 1, 1), (39, .iload_n 2, 1), (40, .invokevirtual 100, 3), (43, .aload_n 0, 1), (44, .getfield 10, 3), (47, .invokevirtual 104, 3), (50, .ireturn, 1)]
set_option maxRecDepth 100000 in
theorem dk_X9_hole : dec_ok cX9_hole tb_X9_hole = true := by decide +kernel
def tb_X9_bag : List (Nat × Instr × Nat) := [(0, .iload_n 1, 1), (1, .iconst 0, 1), (2, .bipush 99, 2), (4, .invokestatic 79, 3), (7, .ifCond .ne 6, 3), (10, .bipush (-2), 2), (12, .ireturn, 1), (13, .aload_n 0, 1), (14, .getfield 10, 3), (17, .getfield 108, 3), (20, .istore_n 2, 1), (21, .aload_n 0, 1), (22, .getfield 10, 3), (25, .iload_n 1, 1), (26, .putfield 108, 3), (29, .iload_n 2, 1), (30, .ireturn, 1)]
set_option maxRecDepth 100000 in
theorem dk_X9_bag : dec_ok cX9_bag tb_X9_bag = true := by decide +kernel
def tb_X5_add : List (Nat × Instr × Nat) := [(0, .aload_n 0, 1), (1, .getfield 15, 3), (4, .bipush 60, 2), (6, .if_icmp .lt 5, 3), (9, .iconst 0, 1), (10, .ireturn, 1), (11, .aload_n 0, 1), (12, .getfield 9, 3), (15, .aload_n 0, 1), (16, .getfield 15, 3), (19, .iload_n 1, 1), (20, .iastore, 1), (21, .aload_n 0, 1), (22, .dup, 1), (23, .getfield 15, 3), (26, .iconst 1, 1), (27, .iadd, 1), (28, .putfield 15, 3), (31, .iconst 1, 1), (32, .ireturn, 1)]
set_option maxRecDepth 100000 in
theorem dk_X5_add : dec_ok cX5_add tb_X5_add = true := by decide +kernel
def tb_X9_say : List (Nat × Instr × Nat) := [(0, .iload_n 1, 1), (1, .bipush 33, 2), (3, .bipush 126, 2), (5, .invokestatic 79, 3), (8, .ifCond .ne 6, 3), (11, .bipush (-2), 2), (13, .ireturn, 1), (14, .aload_n 0, 1), (15, .getfield 22, 3), (18, .iload_n 1, 1), (19, .invokevirtual 112, 3), (22, .ifCond .eq 13, 3), (25, .aload_n 0, 1), (26, .getfield 22, 3), (29, .getfield 115, 3), (32, .goto 5, 3), (35, .bipush (-4), 2), (37, .ireturn, 1)]
set_option maxRecDepth 100000 in
theorem dk_X9_say : dec_ok cX9_say tb_X9_say = true := by decide +kernel
def tb_X9_wipe : List (Nat × Instr × Nat) := [(0, .aload_n 0, 1), (1, .getfield 22, 3), (4, .getfield 115, 3), (7, .istore_n 1, 1), (8, .aload_n 0, 1), (9, .getfield 22, 3), (12, .iconst 0, 1), (13, .putfield 115, 3), (16, .iload_n 1, 1), (17, .ireturn, 1)]
set_option maxRecDepth 100000 in
theorem dk_X9_wipe : dec_ok cX9_wipe tb_X9_wipe = true := by decide +kernel
def tb_X9_isLetter : List (Nat × Instr × Nat) := [(0, .iload_n 0, 1), (1, .bipush 65, 2), (3, .isub, 1), (4, .invokestatic 75, 3), (7, .ireturn, 1)]
set_option maxRecDepth 100000 in
theorem dk_X9_isLetter : dec_ok cX9_isLetter tb_X9_isLetter = true := by decide +kernel
def tb_X5_isDeed : List (Nat × Instr × Nat) := [(0, .iload_n 0, 1), (1, .bipush 43, 2), (3, .if_icmp .eq 27, 3), (6, .iload_n 0, 1), (7, .bipush 45, 2), (9, .if_icmp .eq 21, 3), (12, .iload_n 0, 1), (13, .bipush 94, 2), (15, .if_icmp .eq 15, 3), (18, .iload_n 0, 1), (19, .bipush 95, 2), (21, .if_icmp .eq 9, 3), (24, .iload_n 0, 1), (25, .bipush 33, 2), (27, .if_icmp .ne 7, 3), (30, .iconst 1, 1), (31, .goto 4, 3), (34, .iconst 0, 1), (35, .ireturn, 1)]
set_option maxRecDepth 100000 in
theorem dk_X5_isDeed : dec_ok cX5_isDeed tb_X5_isDeed = true := by decide +kernel
def tb_X5_awaitedBehind : List (Nat × Instr × Nat) := [(0, .iload_n 1, 1), (1, .tableswitch 82 0 2 #[27, 56, 69], 27), (28, .iload_n 0, 1), (29, .bipush 46, 2), (31, .if_icmp .ne 5, 3), (34, .iconst 0, 1), (35, .ireturn, 1), (36, .iload_n 0, 1), (37, .bipush 111, 2), (39, .if_icmp .ne 5, 3), (42, .iconst 2, 1), (43, .ireturn, 1), (44, .iload_n 0, 1), (45, .invokestatic 35, 3), (48, .ifCond .eq 7, 3), (51, .iconst 1, 1), (52, .goto 4, 3), (55, .iconst 4, 1), (56, .ireturn, 1), (57, .iload_n 0, 1), (58, .invokestatic 38, 3), (61, .ifCond .eq 7, 3), (64, .iconst 0, 1), (65, .goto 4, 3), (68, .iconst 4, 1), (69, .ireturn, 1), (70, .iload_n 0, 1), (71, .invokestatic 35, 3), (74, .ifCond .eq 7, 3), (77, .iconst 3, 1), (78, .goto 4, 3), (81, .iconst 4, 1), (82, .ireturn, 1), (83, .iload_n 0, 1), (84, .invokestatic 35, 3), (87, .ifCond .eq 7, 3), (90, .iconst 0, 1), (91, .goto 4, 3), (94, .iconst 4, 1), (95, .ireturn, 1)]
set_option maxRecDepth 100000 in
theorem dk_X5_awaitedBehind : dec_ok cX5_awaitedBehind tb_X5_awaitedBehind = true := by decide +kernel
def tb_X5_faultPlace : List (Nat × Instr × Nat) := [(0, .iconst 0, 1), (1, .istore_n 1, 1), (2, .iconst 0, 1), (3, .istore_n 2, 1), (4, .iload_n 2, 1), (5, .aload_n 0, 1), (6, .getfield 15, 3), (9, .if_icmp .ge 27, 3), (12, .aload_n 0, 1), (13, .getfield 9, 3), (16, .iload_n 2, 1), (17, .iaload, 1), (18, .iload_n 1, 1), (19, .invokestatic 31, 3), (22, .istore_n 1, 1), (23, .iload_n 1, 1), (24, .iconst 4, 1), (25, .if_icmp .ne 5, 3), (28, .iload_n 2, 1), (29, .ireturn, 1), (30, .iinc 2 1, 3), (33, .goto (-29), 3), (36, .iload_n 1, 1), (37, .ifCond .ne 8, 3), (40, .bipush (-6), 2), (42, .goto 7, 3), (45, .aload_n 0, 1), (46, .getfield 15, 3), (49, .ireturn, 1)]
set_option maxRecDepth 100000 in
theorem dk_X5_faultPlace : dec_ok cX5_faultPlace tb_X5_faultPlace = true := by decide +kernel
def tb_X9_fault : List (Nat × Instr × Nat) := [(0, .aload_n 0, 1), (1, .getfield 22, 3), (4, .invokevirtual 118, 3), (7, .ireturn, 1)]
set_option maxRecDepth 100000 in
theorem dk_X9_fault : dec_ok cX9_fault tb_X9_fault = true := by decide +kernel
def tb_X8_become : List (Nat × Instr × Nat) := [(0, .aload_n 1, 1), (1, .getfield 9, 3), (4, .iconst 0, 1), (5, .aload_n 0, 1), (6, .getfield 9, 3), (9, .iconst 0, 1), (10, .bipush 8, 2), (12, .invokestatic 34, 3), (15, .aload_n 1, 1), (16, .getfield 15, 3), (19, .iconst 0, 1), (20, .aload_n 0, 1), (21, .getfield 15, 3), (24, .iconst 0, 1), (25, .bipush 8, 2), (27, .invokestatic 34, 3), (30, .aload_n 1, 1), (31, .getfield 18, 3), (34, .iconst 0, 1), (35, .aload_n 0, 1), (36, .getfield 18, 3), (39, .iconst 0, 1), (40, .bipush 8, 2), (42, .invokestatic 34, 3), (45, .aload_n 1, 1), (46, .getfield 21, 3), (49, .iconst 0, 1), (50, .aload_n 0, 1), (51, .getfield 21, 3), (54, .iconst 0, 1), (55, .bipush 8, 2), (57, .invokestatic 34, 3), (60, .aload_n 1, 1), (61, .getfield 24, 3), (64, .iconst 0, 1), (65, .aload_n 0, 1), (66, .getfield 24, 3), (69, .iconst 0, 1), (70, .bipush 8, 2), (72, .invokestatic 34, 3), (75, .aload_n 0, 1), (76, .aload_n 1, 1), (77, .getfield 30, 3), (80, .putfield 30, 3), (83, .aload_n 0, 1), (84, .aload_n 1, 1), (85, .getfield 40, 3), (88, .putfield 40, 3), (91, .aload_n 0, 1), (92, .aload_n 1, 1), (93, .getfield 43, 3), (96, .putfield 43, 3), (99, .return_, 1)]
set_option maxRecDepth 100000 in
theorem dk_X8_become : dec_ok cX8_become tb_X8_become = true := by decide +kernel
def tb_X8_clearHouses : List (Nat × Instr × Nat) := [(0, .iconst 0, 1), (1, .istore_n 1, 1), (2, .iconst 0, 1), (3, .istore_n 2, 1), (4, .iload_n 2, 1), (5, .bipush 8, 2), (7, .if_icmp .ge 24, 3), (10, .aload_n 0, 1), (11, .getfield 9, 3), (14, .iload_n 2, 1), (15, .iaload, 1), (16, .ifCond .ne 9, 3), (19, .iload_n 1, 1), (20, .iconst 1, 1), (21, .iload_n 2, 1), (22, .ishl, 1), (23, .ior, 1), (24, .istore_n 1, 1), (25, .iinc 2 1, 3), (28, .goto (-24), 3), (31, .iload_n 1, 1), (32, .ireturn, 1)]
set_option maxRecDepth 100000 in
theorem dk_X8_clearHouses : dec_ok cX8_clearHouses tb_X8_clearHouses = true := by decide +kernel
def tb_X5_signAt : List (Nat × Instr × Nat) := [(0, .iload_n 1, 1), (1, .iconst 0, 1), (2, .aload_n 0, 1), (3, .getfield 15, 3), (6, .iconst 1, 1), (7, .isub, 1), (8, .invokestatic 19, 3), (11, .ifCond .eq 12, 3), (14, .aload_n 0, 1), (15, .getfield 9, 3), (18, .iload_n 1, 1), (19, .iaload, 1), (20, .goto 4, 3), (23, .iconst 0, 1), (24, .ireturn, 1)]
set_option maxRecDepth 100000 in
theorem dk_X5_signAt : dec_ok cX5_signAt tb_X5_signAt = true := by decide +kernel
def tb_X5_houseAt : List (Nat × Instr × Nat) := [(0, .aload_n 0, 1), (1, .iload_n 1, 1), (2, .invokevirtual 23, 3), (5, .bipush 65, 2), (7, .isub, 1), (8, .istore_n 2, 1), (9, .iload_n 2, 1), (10, .invokestatic 27, 3), (13, .ifCond .eq 7, 3), (16, .iload_n 2, 1), (17, .goto 4, 3), (20, .iconst 0, 1), (21, .ireturn, 1)]
set_option maxRecDepth 100000 in
theorem dk_X5_houseAt : dec_ok cX5_houseAt tb_X5_houseAt = true := by decide +kernel
def tb_X0_read : List (Nat × Instr × Nat) := [(0, .aload_n 1, 1), (1, .iload_n 2, 1), (2, .invokevirtual 9, 3), (5, .istore_n 3, 1), (6, .aload_n 0, 1), (7, .iload_n 3, 1), (8, .putfield 15, 3), (11, .aload_n 0, 1), (12, .iconst 0, 1), (13, .putfield 21, 3), (16, .aload_n 0, 1), (17, .iconst 0, 1), (18, .putfield 24, 3), (21, .iload_n 3, 1), (22, .bipush 46, 2), (24, .if_icmp .ne 7, 3), (27, .iload_n 2, 1), (28, .iconst 1, 1), (29, .iadd, 1), (30, .ireturn, 1), (31, .iload_n 3, 1), (32, .bipush 111, 2), (34, .if_icmp .ne 29, 3), (37, .aload_n 0, 1), (38, .aload_n 1, 1), (39, .iload_n 2, 1), (40, .iconst 1, 1), (41, .iadd, 1), (42, .invokevirtual 27, 3), (45, .putfield 21, 3), (48, .aload_n 0, 1), (49, .aload_n 1, 1), (50, .iload_n 2, 1), (51, .iconst 2, 1), (52, .iadd, 1), (53, .invokevirtual 27, 3), (56, .putfield 24, 3), (59, .iload_n 2, 1), (60, .iconst 3, 1), (61, .iadd, 1), (62, .ireturn, 1), (63, .aload_n 0, 1), (64, .aload_n 1, 1), (65, .iload_n 2, 1), (66, .invokevirtual 27, 3), (69, .putfield 21, 3), (72, .aload_n 0, 1), (73, .aload_n 1, 1), (74, .iload_n 2, 1), (75, .iconst 1, 1), (76, .iadd, 1), (77, .invokevirtual 9, 3), (80, .putfield 15, 3), (83, .iload_n 2, 1), (84, .iconst 2, 1), (85, .iadd, 1), (86, .ireturn, 1)]
set_option maxRecDepth 100000 in
theorem dk_X0_read : dec_ok cX0_read tb_X0_read = true := by decide +kernel
def tb_X8_whyNot : List (Nat × Instr × Nat) := [(0, .aload_n 1, 1), (1, .getfield 56, 3), (4, .istore_n 2, 1), (5, .iload_n 2, 1), (6, .invokestatic 46, 3), (9, .ifCond .ne 5, 3), (12, .iconst 1, 1), (13, .ireturn, 1), (14, .aload_n 1, 1), (15, .getfield 61, 3), (18, .lookupswitch 160 #[(33, 131), (43, 58), (45, 75), (94, 90), (95, 116), (111, 146)], 58), (76, .aload_n 0, 1), (77, .getfield 15, 3), (80, .iload_n 2, 1), (81, .iaload, 1), (82, .bipush 9, 2), (84, .if_icmp .lt 7, 3), (87, .iconst 1, 1), (88, .goto 4, 3), (91, .iconst 0, 1), (92, .ireturn, 1), (93, .aload_n 0, 1), (94, .getfield 15, 3), (97, .iload_n 2, 1), (98, .iaload, 1), (99, .ifCond .ne 7, 3), (102, .iconst 1, 1), (103, .goto 4, 3), (106, .iconst 0, 1), (107, .ireturn, 1), (108, .aload_n 0, 1), (109, .getfield 18, 3), (112, .iload_n 2, 1), (113, .iaload, 1), (114, .bipush 9, 2), (116, .if_icmp .lt 5, 3), (119, .iconst 1, 1), (120, .ireturn, 1), (121, .aload_n 0, 1), (122, .getfield 30, 3), (125, .ifCond .ne 7, 3), (128, .iconst 2, 1), (129, .goto 4, 3), (132, .iconst 0, 1), (133, .ireturn, 1), (134, .aload_n 0, 1), (135, .getfield 18, 3), (138, .iload_n 2, 1), (139, .iaload, 1), (140, .ifCond .ne 7, 3), (143, .iconst 1, 1), (144, .goto 4, 3), (147, .iconst 0, 1), (148, .ireturn, 1), (149, .aload_n 0, 1), (150, .getfield 9, 3), (153, .iload_n 2, 1), (154, .iaload, 1), (155, .ifCond .ne 7, 3), (158, .iconst 3, 1), (159, .goto 4, 3), (162, .iconst 0, 1), (163, .ireturn, 1), (164, .iload_n 2, 1), (165, .aload_n 1, 1), (166, .getfield 64, 3), (169, .if_icmp .ne 7, 3), (172, .iconst 4, 1), (173, .goto 4, 3), (176, .iconst 0, 1), (177, .ireturn, 1), (178, .aload_n 0, 1), (179, .getfield 43, 3), (182, .bipush 99, 2), (184, .if_icmp .lt 7, 3), (187, .iconst 5, 1), (188, .goto 4, 3), (191, .iconst 0, 1), (192, .ireturn, 1)]
set_option maxRecDepth 100000 in
theorem dk_X8_whyNot : dec_ok cX8_whyNot tb_X8_whyNot = true := by decide +kernel
def tb_X8_quietestOf : List (Nat × Instr × Nat) := [(0, .bipush (-6), 2), (2, .istore_n 2, 1), (3, .bipush 100, 2), (5, .istore_n 3, 1), (6, .iconst 0, 1), (7, .istore 4, 2), (9, .iload 4, 2), (11, .bipush 8, 2), (13, .if_icmp .ge 41, 3), (16, .iload_n 1, 1), (17, .iload 4, 2), (19, .ishr, 1), (20, .iconst 1, 1), (21, .iand, 1), (22, .iconst 1, 1), (23, .if_icmp .ne 25, 3), (26, .aload_n 0, 1), (27, .getfield 27, 3), (30, .iload 4, 2), (32, .iaload, 1), (33, .iload_n 3, 1), (34, .if_icmp .ge 14, 3), (37, .iload 4, 2), (39, .istore_n 2, 1), (40, .aload_n 0, 1), (41, .getfield 27, 3), (44, .iload 4, 2), (46, .iaload, 1), (47, .istore_n 3, 1), (48, .iinc 4 1, 3), (51, .goto (-42), 3), (54, .iload_n 2, 1), (55, .ireturn, 1)]
set_option maxRecDepth 100000 in
theorem dk_X8_quietestOf : dec_ok cX8_quietestOf tb_X8_quietestOf = true := by decide +kernel
def tb_X8_wander : List (Nat × Instr × Nat) := [(0, .aload_n 0, 1), (1, .getfield 9, 3), (4, .iconst 0, 1), (5, .aload_n 0, 1), (6, .getfield 27, 3), (9, .iconst 0, 1), (10, .bipush 8, 2), (12, .invokestatic 34, 3), (15, .iconst 0, 1), (16, .istore_n 1, 1), (17, .iload_n 1, 1), (18, .bipush 8, 2), (20, .if_icmp .ge 76, 3), (23, .aload_n 0, 1), (24, .getfield 27, 3), (27, .iload_n 1, 1), (28, .iaload, 1), (29, .bipush 10, 2), (31, .if_icmp .ge 21, 3), (34, .aload_n 0, 1), (35, .getfield 21, 3), (38, .iload_n 1, 1), (39, .iaload, 1), (40, .ifCond .le 50, 3), (43, .aload_n 0, 1), (44, .getfield 27, 3), (47, .iload_n 1, 1), (48, .iaload, 1), (49, .ifCond .le 41, 3), (52, .aload_n 0, 1), (53, .aload_n 0, 1), (54, .getfield 24, 3), (57, .iload_n 1, 1), (58, .iaload, 1), (59, .invokevirtual 92, 3), (62, .istore_n 2, 1), (63, .iload_n 2, 1), (64, .invokestatic 46, 3), (67, .ifCond .eq 23, 3), (70, .aload_n 0, 1), (71, .getfield 9, 3), (74, .iload_n 1, 1), (75, .dup2, 1), (76, .iaload, 1), (77, .iconst 1, 1), (78, .isub, 1), (79, .iastore, 1), (80, .aload_n 0, 1), (81, .getfield 9, 3), (84, .iload_n 2, 1), (85, .dup2, 1), (86, .iaload, 1), (87, .iconst 1, 1), (88, .iadd, 1), (89, .iastore, 1), (90, .iinc 1 1, 3), (93, .goto (-76), 3), (96, .iconst 0, 1), (97, .istore_n 1, 1), (98, .iload_n 1, 1), (99, .bipush 8, 2), (101, .if_icmp .ge 26, 3), (104, .aload_n 0, 1), (105, .getfield 9, 3), (108, .iload_n 1, 1), (109, .bipush 99, 2), (111, .aload_n 0, 1), (112, .getfield 9, 3), (115, .iload_n 1, 1), (116, .iaload, 1), (117, .invokestatic 67, 3), (120, .iastore, 1), (121, .iinc 1 1, 3), (124, .goto (-26), 3), (127, .return_, 1)]
set_option maxRecDepth 100000 in
theorem dk_X8_wander : dec_ok cX8_wander tb_X8_wander = true := by decide +kernel
def tb_X9_grown : List (Nat × Instr × Nat) := [(0, .bipush 99, 2), (2, .iload_n 0, 1), (3, .iload_n 1, 1), (4, .iload_n 0, 1), (5, .invokestatic 262, 3), (8, .iadd, 1), (9, .invokestatic 262, 3), (12, .ireturn, 1)]
set_option maxRecDepth 100000 in
theorem dk_X9_grown : dec_ok cX9_grown tb_X9_grown = true := by decide +kernel
def tb_X9_uncaged : List (Nat × Instr × Nat) := [(0, .iconst 0, 1), (1, .iload_n 0, 1), (2, .iload_n 1, 1), (3, .isub, 1), (4, .invokestatic 265, 3), (7, .ireturn, 1)]
set_option maxRecDepth 100000 in
theorem dk_X9_uncaged : dec_ok cX9_uncaged tb_X9_uncaged = true := by decide +kernel
def tb_X8_passWeek : List (Nat × Instr × Nat) := [(0, .iconst 0, 1), (1, .istore_n 1, 1), (2, .iload_n 1, 1), (3, .bipush 8, 2), (5, .if_icmp .ge 58, 3), (8, .aload_n 0, 1), (9, .getfield 9, 3), (12, .iload_n 1, 1), (13, .iaload, 1), (14, .aload_n 0, 1), (15, .getfield 15, 3), (18, .iload_n 1, 1), (19, .iaload, 1), (20, .invokestatic 80, 3), (23, .istore_n 2, 1), (24, .aload_n 0, 1), (25, .getfield 9, 3), (28, .iload_n 1, 1), (29, .iload_n 2, 1), (30, .aload_n 0, 1), (31, .getfield 18, 3), (34, .iload_n 1, 1), (35, .iaload, 1), (36, .invokestatic 83, 3), (39, .iastore, 1), (40, .aload_n 0, 1), (41, .dup, 1), (42, .getfield 40, 3), (45, .iload_n 2, 1), (46, .aload_n 0, 1), (47, .getfield 9, 3), (50, .iload_n 1, 1), (51, .iaload, 1), (52, .isub, 1), (53, .iadd, 1), (54, .putfield 40, 3), (57, .iinc 1 1, 3), (60, .goto (-58), 3), (63, .aload_n 0, 1), (64, .invokevirtual 86, 3), (67, .iconst 0, 1), (68, .istore_n 1, 1), (69, .iload_n 1, 1), (70, .bipush 8, 2), (72, .if_icmp .ge 27, 3), (75, .aload_n 0, 1), (76, .getfield 21, 3), (79, .iload_n 1, 1), (80, .iconst 0, 1), (81, .aload_n 0, 1), (82, .getfield 21, 3), (85, .iload_n 1, 1), (86, .iaload, 1), (87, .iconst 1, 1), (88, .isub, 1), (89, .invokestatic 89, 3), (92, .iastore, 1), (93, .iinc 1 1, 3), (96, .goto (-27), 3), (99, .aload_n 0, 1), (100, .dup, 1), (101, .getfield 43, 3), (104, .iconst 1, 1), (105, .iadd, 1), (106, .putfield 43, 3), (109, .return_, 1)]
set_option maxRecDepth 100000 in
theorem dk_X8_passWeek : dec_ok cX8_passWeek tb_X8_passWeek = true := by decide +kernel
def tb_X8_take : List (Nat × Instr × Nat) := [(0, .aload_n 1, 1), (1, .getfield 56, 3), (4, .istore_n 2, 1), (5, .iload_n 2, 1), (6, .invokestatic 46, 3), (9, .ifCond .ne 4, 3), (12, .return_, 1), (13, .aload_n 1, 1), (14, .getfield 61, 3), (17, .lookupswitch 168 #[(33, 136), (43, 59), (45, 72), (94, 85), (95, 108), (111, 156)], 59), (76, .aload_n 0, 1), (77, .getfield 15, 3), (80, .iload_n 2, 1), (81, .dup2, 1), (82, .iaload, 1), (83, .iconst 1, 1), (84, .iadd, 1), (85, .iastore, 1), (86, .goto 103, 3), (89, .aload_n 0, 1), (90, .getfield 15, 3), (93, .iload_n 2, 1), (94, .dup2, 1), (95, .iaload, 1), (96, .iconst 1, 1), (97, .isub, 1), (98, .iastore, 1), (99, .goto 90, 3), (102, .aload_n 0, 1), (103, .getfield 18, 3), (106, .iload_n 2, 1), (107, .dup2, 1), (108, .iaload, 1), (109, .iconst 1, 1), (110, .iadd, 1), (111, .iastore, 1), (112, .aload_n 0, 1), (113, .dup, 1), (114, .getfield 30, 3), (117, .iconst 1, 1), (118, .isub, 1), (119, .putfield 30, 3), (122, .goto 67, 3), (125, .aload_n 0, 1), (126, .getfield 18, 3), (129, .iload_n 2, 1), (130, .dup2, 1), (131, .iaload, 1), (132, .iconst 1, 1), (133, .isub, 1), (134, .iastore, 1), (135, .aload_n 0, 1), (136, .bipush 99, 2), (138, .aload_n 0, 1), (139, .getfield 30, 3), (142, .iconst 1, 1), (143, .iadd, 1), (144, .invokestatic 67, 3), (147, .putfield 30, 3), (150, .goto 39, 3), (153, .aload_n 0, 1), (154, .getfield 9, 3), (157, .iload_n 2, 1), (158, .dup2, 1), (159, .iaload, 1), (160, .iconst 2, 1), (161, .idiv, 1), (162, .iastore, 1), (163, .aload_n 0, 1), (164, .getfield 21, 3), (167, .iload_n 2, 1), (168, .iconst 3, 1), (169, .iastore, 1), (170, .goto 19, 3), (173, .aload_n 0, 1), (174, .iload_n 2, 1), (175, .aload_n 1, 1), (176, .getfield 64, 3), (179, .invokevirtual 73, 3), (182, .goto 7, 3), (185, .aload_n 0, 1), (186, .invokevirtual 77, 3), (189, .return_, 1)]
set_option maxRecDepth 100000 in
theorem dk_X8_take : dec_ok cX8_take tb_X8_take = true := by decide +kernel
def tb_X7_noteRid : List (Nat × Instr × Nat) := [(0, .iload_n 2, 1), (1, .ifCond .eq 12, 3), (4, .aload_n 0, 1), (5, .getfield 18, 3), (8, .bipush (-6), 2), (10, .if_icmp .eq 4, 3), (13, .return_, 1), (14, .aload_n 0, 1), (15, .iload_n 1, 1), (16, .putfield 18, 3), (19, .bipush 7, 2), (21, .istore_n 3, 1), (22, .iload_n 3, 1), (23, .ifCond .lt 23, 3), (26, .iload_n 2, 1), (27, .iload_n 3, 1), (28, .ishr, 1), (29, .iconst 1, 1), (30, .iand, 1), (31, .iconst 1, 1), (32, .if_icmp .ne 8, 3), (35, .aload_n 0, 1), (36, .iload_n 3, 1), (37, .putfield 21, 3), (40, .iinc 3 (-1), 3), (43, .goto (-21), 3), (46, .return_, 1)]
set_option maxRecDepth 100000 in
theorem dk_X7_noteRid : dec_ok cX7_noteRid tb_X7_noteRid = true := by decide +kernel
def tb_X7_follow : List (Nat × Instr × Nat) := [(0, .aload_n 0, 1), (1, .bipush (-6), 2), (3, .putfield 9, 3), (6, .aload_n 0, 1), (7, .bipush (-6), 2), (9, .putfield 15, 3), (12, .aload_n 0, 1), (13, .bipush (-6), 2), (15, .putfield 18, 3), (18, .aload_n 0, 1), (19, .bipush (-6), 2), (21, .putfield 21, 3), (24, .iconst 0, 1), (25, .istore 4, 2), (27, .aload_n 3, 1), (28, .invokevirtual 24, 3), (31, .istore 5, 2), (33, .aload_n 0, 1), (34, .iconst 0, 1), (35, .putfield 30, 3), (38, .iconst 0, 1), (39, .istore 6, 2), (41, .iload 6, 2), (43, .bipush 60, 2), (45, .if_icmp .ge 90, 3), (48, .iload 4, 2), (50, .aload_n 1, 1), (51, .getfield 33, 3), (54, .if_icmp .ge 81, 3), (57, .aload_n 2, 1), (58, .aload_n 1, 1), (59, .iload 4, 2), (61, .invokevirtual 38, 3), (64, .istore 4, 2), (66, .aload_n 3, 1), (67, .aload_n 2, 1), (68, .invokevirtual 44, 3), (71, .istore 7, 2), (73, .iload 7, 2), (75, .ifCond .eq 16, 3), (78, .aload_n 0, 1), (79, .iload 6, 2), (81, .putfield 9, 3), (84, .aload_n 0, 1), (85, .iload 7, 2), (87, .putfield 15, 3), (90, .return_, 1), (91, .aload_n 3, 1), (92, .aload_n 2, 1), (93, .invokevirtual 48, 3), (96, .aload_n 3, 1), (97, .invokevirtual 24, 3), (100, .istore 8, 2), (102, .aload_n 0, 1), (103, .iload 6, 2), (105, .iload 8, 2), (107, .iload 5, 2), (109, .iconst (-1), 1), (110, .ixor, 1), (111, .iand, 1), (112, .invokevirtual 52, 3), (115, .iload 8, 2), (117, .istore 5, 2), (119, .aload_n 0, 1), (120, .dup, 1), (121, .getfield 30, 3), (124, .iconst 1, 1), (125, .iadd, 1), (126, .putfield 30, 3), (129, .iinc 6 1, 3), (132, .goto (-91), 3), (135, .return_, 1)]
set_option maxRecDepth 100000 in
theorem dk_X7_follow : dec_ok cX7_follow tb_X7_follow = true := by decide +kernel
def tb_X9_tryPad : List (Nat × Instr × Nat) := [(0, .aload_n 0, 1), (1, .getfield 22, 3), (4, .invokevirtual 118, 3), (7, .bipush (-6), 2), (9, .if_icmp .eq 6, 3), (12, .bipush (-5), 2), (14, .ireturn, 1), (15, .aload_n 0, 1), (16, .getfield 16, 3), (19, .aload_n 0, 1), (20, .getfield 10, 3), (23, .invokevirtual 152, 3), (26, .aload_n 0, 1), (27, .getfield 36, 3), (30, .aload_n 0, 1), (31, .getfield 22, 3), (34, .aload_n 0, 1), (35, .getfield 29, 3), (38, .aload_n 0, 1), (39, .getfield 16, 3), (42, .invokevirtual 159, 3), (45, .aload_n 0, 1), (46, .getfield 36, 3), (49, .getfield 124, 3), (52, .bipush (-6), 2), (54, .if_icmp .ne 7, 3), (57, .iconst 0, 1), (58, .goto 5, 3), (61, .bipush (-3), 2), (63, .ireturn, 1)]
set_option maxRecDepth 100000 in
theorem dk_X9_tryPad : dec_ok cX9_tryPad tb_X9_tryPad = true := by decide +kernel
def tb_X9_judge : List (Nat × Instr × Nat) := [(0, .iload_n 1, 1), (1, .iconst 0, 1), (2, .iconst 2, 1), (3, .invokestatic 79, 3), (6, .ifCond .ne 6, 3), (9, .bipush (-2), 2), (11, .ireturn, 1), (12, .aload_n 0, 1), (13, .invokevirtual 121, 3), (16, .istore_n 2, 1), (17, .iload_n 2, 1), (18, .bipush (-5), 2), (20, .if_icmp .ne 6, 3), (23, .bipush (-5), 2), (25, .ireturn, 1), (26, .iload_n 1, 1), (27, .lookupswitch 41 #[(0, 25), (1, 33)], 25), (52, .aload_n 0, 1), (53, .getfield 36, 3), (56, .getfield 124, 3), (59, .ireturn, 1), (60, .aload_n 0, 1), (61, .getfield 36, 3), (64, .getfield 127, 3), (67, .ireturn, 1), (68, .iload_n 2, 1), (69, .bipush (-3), 2), (71, .if_icmp .ne 8, 3), (74, .bipush (-3), 2), (76, .goto 18, 3), (79, .aload_n 0, 1), (80, .getfield 16, 3), (83, .getfield 130, 3), (86, .aload_n 0, 1), (87, .getfield 10, 3), (90, .getfield 130, 3), (93, .isub, 1), (94, .ireturn, 1)]
set_option maxRecDepth 100000 in
theorem dk_X9_judge : dec_ok cX9_judge tb_X9_judge = true := by decide +kernel
def tb_X8_ofHouse : List (Nat × Instr × Nat) := [(0, .iload_n 1, 1), (1, .invokestatic 46, 3), (4, .ifCond .ne 5, 3), (7, .iconst (-1), 1), (8, .ireturn, 1), (9, .iload_n 2, 1), (10, .tableswitch 47 0 2 #[26, 33, 40], 26), (36, .aload_n 0, 1), (37, .getfield 9, 3), (40, .iload_n 1, 1), (41, .iaload, 1), (42, .ireturn, 1), (43, .aload_n 0, 1), (44, .getfield 15, 3), (47, .iload_n 1, 1), (48, .iaload, 1), (49, .ireturn, 1), (50, .aload_n 0, 1), (51, .getfield 18, 3), (54, .iload_n 1, 1), (55, .iaload, 1), (56, .ireturn, 1), (57, .aload_n 0, 1), (58, .getfield 21, 3), (61, .iload_n 1, 1), (62, .iaload, 1), (63, .ireturn, 1)]
set_option maxRecDepth 100000 in
theorem dk_X8_ofHouse : dec_ok cX8_ofHouse tb_X8_ofHouse = true := by decide +kernel
def tb_X9_behind : List (Nat × Instr × Nat) := [(0, .iload_n 1, 1), (1, .invokestatic 75, 3), (4, .ifCond .ne 5, 3), (7, .iconst (-1), 1), (8, .ireturn, 1), (9, .iload_n 2, 1), (10, .iconst 0, 1), (11, .iconst 3, 1), (12, .invokestatic 79, 3), (15, .ifCond .ne 6, 3), (18, .bipush (-2), 2), (20, .ireturn, 1), (21, .aload_n 0, 1), (22, .invokevirtual 121, 3), (25, .istore_n 3, 1), (26, .iload_n 3, 1), (27, .ifCond .eq 7, 3), (30, .iload_n 3, 1), (31, .goto 12, 3), (34, .aload_n 0, 1), (35, .getfield 16, 3), (38, .iload_n 1, 1), (39, .iload_n 2, 1), (40, .invokevirtual 133, 3), (43, .ireturn, 1)]
set_option maxRecDepth 100000 in
theorem dk_X9_behind : dec_ok cX9_behind tb_X9_behind = true := by decide +kernel
def tb_X8_allDoubts : List (Nat × Instr × Nat) := [(0, .iconst 0, 1), (1, .istore_n 1, 1), (2, .iconst 0, 1), (3, .istore_n 2, 1), (4, .iload_n 2, 1), (5, .bipush 8, 2), (7, .if_icmp .ge 18, 3), (10, .iload_n 1, 1), (11, .aload_n 0, 1), (12, .getfield 9, 3), (15, .iload_n 2, 1), (16, .iaload, 1), (17, .iadd, 1), (18, .istore_n 1, 1), (19, .iinc 2 1, 3), (22, .goto (-18), 3), (25, .iload_n 1, 1), (26, .ireturn, 1)]
set_option maxRecDepth 100000 in
theorem dk_X8_allDoubts : dec_ok cX8_allDoubts tb_X8_allDoubts = true := by decide +kernel
def tb_X9_town : List (Nat × Instr × Nat) := [(0, .iload_n 1, 1), (1, .iconst 0, 1), (2, .iconst 4, 1), (3, .invokestatic 79, 3), (6, .ifCond .ne 6, 3), (9, .bipush (-2), 2), (11, .ireturn, 1), (12, .aload_n 0, 1), (13, .invokevirtual 121, 3), (16, .istore_n 2, 1), (17, .iload_n 2, 1), (18, .ifCond .eq 5, 3), (21, .iload_n 2, 1), (22, .ireturn, 1), (23, .iload_n 1, 1), (24, .tableswitch 64 0 3 #[32, 40, 48, 56], 32), (56, .aload_n 0, 1), (57, .getfield 16, 3), (60, .invokevirtual 137, 3), (63, .ireturn, 1), (64, .aload_n 0, 1), (65, .getfield 16, 3), (68, .getfield 108, 3), (71, .ireturn, 1), (72, .aload_n 0, 1), (73, .getfield 16, 3), (76, .getfield 130, 3), (79, .ireturn, 1), (80, .aload_n 0, 1), (81, .getfield 16, 3), (84, .getfield 140, 3), (87, .ireturn, 1), (88, .aload_n 0, 1), (89, .getfield 16, 3), (92, .invokevirtual 143, 3), (95, .ireturn, 1)]
set_option maxRecDepth 100000 in
theorem dk_X9_town : dec_ok cX9_town tb_X9_town = true := by decide +kernel
def tb_X9_rid : List (Nat × Instr × Nat) := [(0, .iload_n 1, 1), (1, .iconst 0, 1), (2, .iconst 1, 1), (3, .invokestatic 79, 3), (6, .ifCond .ne 6, 3), (9, .bipush (-2), 2), (11, .ireturn, 1), (12, .aload_n 0, 1), (13, .invokevirtual 121, 3), (16, .istore_n 2, 1), (17, .iload_n 2, 1), (18, .ifCond .eq 5, 3), (21, .iload_n 2, 1), (22, .ireturn, 1), (23, .iload_n 1, 1), (24, .ifCond .ne 13, 3), (27, .aload_n 0, 1), (28, .getfield 36, 3), (31, .getfield 146, 3), (34, .goto 10, 3), (37, .aload_n 0, 1), (38, .getfield 36, 3), (41, .getfield 149, 3), (44, .ireturn, 1)]
set_option maxRecDepth 100000 in
theorem dk_X9_rid : dec_ok cX9_rid tb_X9_rid = true := by decide +kernel
def tb_X9_done : List (Nat × Instr × Nat) := [(0, .aload_n 0, 1), (1, .invokevirtual 121, 3), (4, .istore_n 1, 1), (5, .iload_n 1, 1), (6, .ifCond .eq 5, 3), (9, .iload_n 1, 1), (10, .ireturn, 1), (11, .aload_n 0, 1), (12, .getfield 10, 3), (15, .aload_n 0, 1), (16, .getfield 16, 3), (19, .invokevirtual 152, 3), (22, .aload_n 0, 1), (23, .getfield 22, 3), (26, .iconst 0, 1), (27, .putfield 115, 3), (30, .aload_n 0, 1), (31, .getfield 36, 3), (34, .getfield 156, 3), (37, .ireturn, 1)]
set_option maxRecDepth 100000 in
theorem dk_X9_done : dec_ok cX9_done tb_X9_done = true := by decide +kernel
def tb_X9_alone : List (Nat × Instr × Nat) := [(0, .iload_n 1, 1), (1, .iconst 0, 1), (2, .bipush 99, 2), (4, .invokestatic 79, 3), (7, .ifCond .eq 33, 3), (10, .iload_n 2, 1), (11, .iconst 0, 1), (12, .bipush 9, 2), (14, .invokestatic 79, 3), (17, .ifCond .eq 23, 3), (20, .iload_n 3, 1), (21, .iconst 0, 1), (22, .bipush 9, 2), (24, .invokestatic 79, 3), (27, .ifCond .eq 13, 3), (30, .iload 4, 2), (32, .iconst 0, 1), (33, .iconst 1, 1), (34, .invokestatic 79, 3), (37, .ifCond .ne 6, 3), (40, .bipush (-2), 2), (42, .ireturn, 1), (43, .iload 4, 2), (45, .ifCond .ne 7, 3), (48, .iconst 0, 1), (49, .goto 5, 3), (52, .bipush 99, 2), (54, .istore 5, 2), (56, .iload_n 1, 1), (57, .istore 6, 2), (59, .iconst 0, 1), (60, .istore 7, 2), (62, .iload 7, 2), (64, .bipush 99, 2), (66, .if_icmp .gt 31, 3), (69, .iload 6, 2), (71, .iload 5, 2), (73, .if_icmp .ne 6, 3), (76, .iload 7, 2), (78, .ireturn, 1), (79, .iload 6, 2), (81, .iload_n 2, 1), (82, .invokestatic 163, 3), (85, .iload_n 3, 1), (86, .invokestatic 166, 3), (89, .istore 6, 2), (91, .iinc 7 1, 3), (94, .goto (-32), 3), (97, .bipush (-6), 2), (99, .ireturn, 1)]
set_option maxRecDepth 100000 in
theorem dk_X9_alone : dec_ok cX9_alone tb_X9_alone = true := by decide +kernel
def tb_X8_holesAllMeet : List (Nat × Instr × Nat) := [(0, .iconst 0, 1), (1, .istore_n 2, 1), (2, .iload_n 2, 1), (3, .bipush 8, 2), (5, .if_icmp .ge 32, 3), (8, .iload_n 1, 1), (9, .iload_n 2, 1), (10, .ishr, 1), (11, .iconst 1, 1), (12, .iand, 1), (13, .ifCond .ne 18, 3), (16, .aload_n 0, 1), (17, .getfield 24, 3), (20, .iload_n 2, 1), (21, .iaload, 1), (22, .iload_n 1, 1), (23, .iconst (-1), 1), (24, .ixor, 1), (25, .iand, 1), (26, .ifCond .eq 5, 3), (29, .iconst 0, 1), (30, .ireturn, 1), (31, .iinc 2 1, 3), (34, .goto (-32), 3), (37, .iconst 1, 1), (38, .ireturn, 1)]
set_option maxRecDepth 100000 in
theorem dk_X8_holesAllMeet : dec_ok cX8_holesAllMeet tb_X8_holesAllMeet = true := by decide +kernel
def tb_X9_terriers : List (Nat × Instr × Nat) := [(0, .iload_n 1, 1), (1, .iconst 0, 1), (2, .iconst 1, 1), (3, .invokestatic 79, 3), (6, .ifCond .ne 6, 3), (9, .bipush (-2), 2), (11, .ireturn, 1), (12, .bipush 9, 2), (14, .istore_n 2, 1), (15, .iconst 0, 1), (16, .istore_n 3, 1), (17, .iconst 0, 1), (18, .istore 4, 2), (20, .iload 4, 2), (22, .sipush 256, 3), (25, .if_icmp .ge 40, 3), (28, .iload 4, 2), (30, .invokestatic 169, 3), (33, .istore 5, 2), (35, .iload 5, 2), (37, .iload_n 2, 1), (38, .if_icmp .ge 21, 3), (41, .aload_n 0, 1), (42, .getfield 10, 3), (45, .iload 4, 2), (47, .invokevirtual 175, 3), (50, .ifCond .eq 9, 3), (53, .iload 5, 2), (55, .istore_n 2, 1), (56, .iload 4, 2), (58, .istore_n 3, 1), (59, .iinc 4 1, 3), (62, .goto (-42), 3), (65, .iload_n 1, 1), (66, .ifCond .ne 7, 3), (69, .iload_n 2, 1), (70, .goto 4, 3), (73, .iload_n 3, 1), (74, .ireturn, 1)]
set_option maxRecDepth 100000 in
theorem dk_X9_terriers : dec_ok cX9_terriers tb_X9_terriers = true := by decide +kernel
def tb_X2_offer : List (Nat × Instr × Nat) := [(0, .iload_n 2, 1), (1, .aload_n 0, 1), (2, .getfield 11, 3), (5, .iload_n 1, 1), (6, .iaload, 1), (7, .if_icmp .gt 23, 3), (10, .iload_n 2, 1), (11, .aload_n 0, 1), (12, .getfield 11, 3), (15, .iload_n 1, 1), (16, .iaload, 1), (17, .if_icmp .ne 27, 3), (20, .iload_n 3, 1), (21, .aload_n 0, 1), (22, .getfield 15, 3), (25, .iload_n 1, 1), (26, .iaload, 1), (27, .if_icmp .ge 17, 3), (30, .aload_n 0, 1), (31, .getfield 11, 3), (34, .iload_n 1, 1), (35, .iload_n 2, 1), (36, .iastore, 1), (37, .aload_n 0, 1), (38, .getfield 15, 3), (41, .iload_n 1, 1), (42, .iload_n 3, 1), (43, .iastore, 1), (44, .return_, 1)]
set_option maxRecDepth 100000 in
theorem dk_X2_offer : dec_ok cX2_offer tb_X2_offer = true := by decide +kernel
def tb_X2_compare : List (Nat × Instr × Nat) := [(0, .iload_n 1, 1), (1, .bipush 11, 2), (3, .bipush 99, 2), (5, .invokestatic 29, 3), (8, .ifCond .ne 4, 3), (11, .return_, 1), (12, .aload_n 0, 1), (13, .getfield 11, 3), (16, .iload_n 1, 1), (17, .aload_n 0, 1), (18, .getfield 11, 3), (21, .iload_n 1, 1), (22, .iconst 1, 1), (23, .isub, 1), (24, .iaload, 1), (25, .iastore, 1), (26, .aload_n 0, 1), (27, .getfield 15, 3), (30, .iload_n 1, 1), (31, .aload_n 0, 1), (32, .getfield 15, 3), (35, .iload_n 1, 1), (36, .iconst 1, 1), (37, .isub, 1), (38, .iaload, 1), (39, .iastore, 1), (40, .aload_n 0, 1), (41, .iload_n 1, 1), (42, .aload_n 0, 1), (43, .getfield 11, 3), (46, .iload_n 1, 1), (47, .bipush 10, 2), (49, .isub, 1), (50, .iaload, 1), (51, .aload_n 0, 1), (52, .getfield 15, 3), (55, .iload_n 1, 1), (56, .bipush 10, 2), (58, .isub, 1), (59, .iaload, 1), (60, .invokevirtual 33, 3), (63, .aload_n 0, 1), (64, .getfield 11, 3), (67, .iload_n 1, 1), (68, .bipush 10, 2), (70, .isub, 1), (71, .iconst 1, 1), (72, .isub, 1), (73, .iaload, 1), (74, .istore 4, 2), (76, .iload_n 2, 1), (77, .iload_n 3, 1), (78, .if_icmp .ne 43, 3), (81, .iload 4, 2), (83, .iconst 0, 1), (84, .bipush 8, 2), (86, .invokestatic 29, 3), (89, .ifCond .eq 32, 3), (92, .aload_n 0, 1), (93, .iload_n 1, 1), (94, .iload 4, 2), (96, .iconst 1, 1), (97, .iadd, 1), (98, .iload_n 2, 1), (99, .getstatic 36, 3), (102, .iload 4, 2), (104, .iaload, 1), (105, .imul, 1), (106, .aload_n 0, 1), (107, .getfield 15, 3), (110, .iload_n 1, 1), (111, .bipush 10, 2), (113, .isub, 1), (114, .iconst 1, 1), (115, .isub, 1), (116, .iaload, 1), (117, .iadd, 1), (118, .invokevirtual 33, 3), (121, .return_, 1)]
set_option maxRecDepth 100000 in
theorem dk_X2_compare : dec_ok cX2_compare tb_X2_compare = true := by decide +kernel
def tb_X2_listen : List (Nat × Instr × Nat) := [(0, .iload_n 1, 1), (1, .istore 4, 2), (3, .iconst 1, 1), (4, .istore 5, 2), (6, .iload 5, 2), (8, .iload_n 3, 1), (9, .if_icmp .gt 77, 3), (12, .iload 5, 2), (14, .bipush 10, 2), (16, .if_icmp .ge 70, 3), (19, .iload_n 2, 1), (20, .istore 6, 2), (22, .iconst 1, 1), (23, .istore 7, 2), (25, .iload 7, 2), (27, .iload_n 3, 1), (28, .if_icmp .gt 45, 3), (31, .iload 7, 2), (33, .bipush 10, 2), (35, .if_icmp .ge 38, 3), (38, .aload_n 0, 1), (39, .bipush 10, 2), (41, .iload 5, 2), (43, .imul, 1), (44, .iload 7, 2), (46, .iadd, 1), (47, .iload 4, 2), (49, .bipush 10, 2), (51, .irem, 1), (52, .iload 6, 2), (54, .bipush 10, 2), (56, .irem, 1), (57, .invokevirtual 18, 3), (60, .iload 6, 2), (62, .bipush 10, 2), (64, .idiv, 1), (65, .istore 6, 2), (67, .iinc 7 1, 3), (70, .goto (-45), 3), (73, .iload 4, 2), (75, .bipush 10, 2), (77, .idiv, 1), (78, .istore 4, 2), (80, .iinc 5 1, 3), (83, .goto (-77), 3), (86, .aload_n 0, 1), (87, .iconst 0, 1), (88, .putfield 22, 3), (91, .aload_n 0, 1), (92, .iconst 0, 1), (93, .putfield 26, 3), (96, .iload_n 3, 1), (97, .iconst 1, 1), (98, .bipush 9, 2), (100, .invokestatic 29, 3), (103, .ifCond .eq 33, 3), (106, .aload_n 0, 1), (107, .aload_n 0, 1), (108, .getfield 11, 3), (111, .bipush 10, 2), (113, .iload_n 3, 1), (114, .imul, 1), (115, .iload_n 3, 1), (116, .iadd, 1), (117, .iaload, 1), (118, .putfield 22, 3), (121, .aload_n 0, 1), (122, .aload_n 0, 1), (123, .getfield 15, 3), (126, .bipush 10, 2), (128, .iload_n 3, 1), (129, .imul, 1), (130, .iload_n 3, 1), (131, .iadd, 1), (132, .iaload, 1), (133, .putfield 26, 3), (136, .return_, 1)]
set_option maxRecDepth 100000 in
theorem dk_X2_listen : dec_ok cX2_listen tb_X2_listen = true := by decide +kernel
def tb_X9_heard : List (Nat × Instr × Nat) := [(0, .iload_n 3, 1), (1, .iconst 1, 1), (2, .bipush 9, 2), (4, .invokestatic 79, 3), (7, .ifCond .eq 13, 3), (10, .iload 4, 2), (12, .iconst 0, 1), (13, .iconst 1, 1), (14, .invokestatic 79, 3), (17, .ifCond .ne 6, 3), (20, .bipush (-2), 2), (22, .ireturn, 1), (23, .getstatic 178, 3), (26, .iload_n 3, 1), (27, .iaload, 1), (28, .iconst 1, 1), (29, .isub, 1), (30, .istore 5, 2), (32, .iload_n 1, 1), (33, .iconst 0, 1), (34, .iload 5, 2), (36, .invokestatic 79, 3), (39, .ifCond .eq 13, 3), (42, .iload_n 2, 1), (43, .iconst 0, 1), (44, .iload 5, 2), (46, .invokestatic 79, 3), (49, .ifCond .ne 6, 3), (52, .bipush (-2), 2), (54, .ireturn, 1), (55, .aload_n 0, 1), (56, .getfield 57, 3), (59, .iload_n 1, 1), (60, .iload_n 2, 1), (61, .iload_n 3, 1), (62, .invokevirtual 181, 3), (65, .iload 4, 2), (67, .ifCond .ne 13, 3), (70, .aload_n 0, 1), (71, .getfield 57, 3), (74, .getfield 185, 3), (77, .goto 10, 3), (80, .aload_n 0, 1), (81, .getfield 57, 3), (84, .getfield 188, 3), (87, .ireturn, 1)]
set_option maxRecDepth 100000 in
theorem dk_X9_heard : dec_ok cX9_heard tb_X9_heard = true := by decide +kernel
def tb_X6_add : List (Nat × Instr × Nat) := [(0, .aload_n 0, 1), (1, .getfield 25, 3), (4, .bipush 8, 2), (6, .if_icmp .ge 13, 3), (9, .iload_n 1, 1), (10, .iconst 0, 1), (11, .bipush 40, 2), (13, .invokestatic 34, 3), (16, .ifCond .ne 5, 3), (19, .iconst 0, 1), (20, .ireturn, 1), (21, .aload_n 0, 1), (22, .getfield 9, 3), (25, .iload_n 1, 1), (26, .aload_n 0, 1), (27, .getfield 9, 3), (30, .iload_n 1, 1), (31, .iaload, 1), (32, .iconst (-1), 1), (33, .if_icmp .eq 13, 3), (36, .aload_n 0, 1), (37, .getfield 9, 3), (40, .iload_n 1, 1), (41, .iaload, 1), (42, .iload_n 2, 1), (43, .if_icmp .ne 7, 3), (46, .iload_n 2, 1), (47, .goto 5, 3), (50, .bipush (-2), 2), (52, .iastore, 1), (53, .aload_n 0, 1), (54, .aload_n 0, 1), (55, .getfield 21, 3), (58, .iload_n 1, 1), (59, .invokestatic 38, 3), (62, .putfield 21, 3), (65, .aload_n 0, 1), (66, .dup, 1), (67, .getfield 25, 3), (70, .iconst 1, 1), (71, .iadd, 1), (72, .putfield 25, 3), (75, .iconst 1, 1), (76, .ireturn, 1)]
set_option maxRecDepth 100000 in
theorem dk_X6_add : dec_ok cX6_add tb_X6_add = true := by decide +kernel
def tb_X9_gnawed : List (Nat × Instr × Nat) := [(0, .iload_n 1, 1), (1, .iconst 0, 1), (2, .bipush 40, 2), (4, .invokestatic 79, 3), (7, .ifCond .eq 13, 3), (10, .iload_n 2, 1), (11, .iconst 0, 1), (12, .bipush 99, 2), (14, .invokestatic 79, 3), (17, .ifCond .ne 6, 3), (20, .bipush (-2), 2), (22, .ireturn, 1), (23, .aload_n 0, 1), (24, .getfield 43, 3), (27, .iload_n 1, 1), (28, .iload_n 2, 1), (29, .invokevirtual 191, 3), (32, .ifCond .eq 13, 3), (35, .aload_n 0, 1), (36, .getfield 43, 3), (39, .getfield 193, 3), (42, .goto 5, 3), (45, .bipush (-4), 2), (47, .ireturn, 1)]
set_option maxRecDepth 100000 in
theorem dk_X9_gnawed : dec_ok cX9_gnawed tb_X9_gnawed = true := by decide +kernel
def tb_J7_fill_53178 : List (Nat × Instr × Nat) := [(0, .iconst 0, 1), (1, .istore_n 2, 1), (2, .aload_n 0, 1), (3, .arraylength, 1), (4, .istore_n 3, 1), (5, .iload_n 2, 1), (6, .iload_n 3, 1), (7, .if_icmp .ge 13, 3), (10, .aload_n 0, 1), (11, .iload_n 2, 1), (12, .iload_n 1, 1), (13, .iastore, 1), (14, .iinc 2 1, 3), (17, .goto (-12), 3), (20, .return_, 1)]
set_option maxRecDepth 100000 in
theorem dk_J7_fill_53178 : dec_ok cJ7_fill_53178 tb_J7_fill_53178 = true := by decide +kernel
def tb_X6_clear : List (Nat × Instr × Nat) := [(0, .aload_n 0, 1), (1, .getfield 9, 3), (4, .iconst (-1), 1), (5, .invokestatic 15, 3), (8, .aload_n 0, 1), (9, .iconst 0, 1), (10, .putfield 25, 3), (13, .aload_n 0, 1), (14, .iconst (-1), 1), (15, .putfield 21, 3), (18, .return_, 1)]
set_option maxRecDepth 100000 in
theorem dk_X6_clear : dec_ok cX6_clear tb_X6_clear = true := by decide +kernel
def tb_X9_forget : List (Nat × Instr × Nat) := [(0, .aload_n 0, 1), (1, .getfield 43, 3), (4, .getfield 193, 3), (7, .istore_n 1, 1), (8, .aload_n 0, 1), (9, .getfield 43, 3), (12, .invokevirtual 194, 3), (15, .iload_n 1, 1), (16, .ireturn, 1)]
set_option maxRecDepth 100000 in
theorem dk_X9_forget : dec_ok cX9_forget tb_X9_forget = true := by decide +kernel
def tb_X6_agree : List (Nat × Instr × Nat) := [(0, .iload_n 1, 1), (1, .istore_n 3, 1), (2, .iconst 0, 1), (3, .istore 4, 2), (5, .iload 4, 2), (7, .aload_n 0, 1), (8, .getfield 21, 3), (11, .if_icmp .gt 46, 3), (14, .iload 4, 2), (16, .bipush 40, 2), (18, .if_icmp .gt 39, 3), (21, .aload_n 0, 1), (22, .getfield 9, 3), (25, .iload 4, 2), (27, .iaload, 1), (28, .iconst (-1), 1), (29, .if_icmp .eq 16, 3), (32, .aload_n 0, 1), (33, .getfield 9, 3), (36, .iload 4, 2), (38, .iaload, 1), (39, .iload_n 3, 1), (40, .if_icmp .eq 5, 3), (43, .iconst 0, 1), (44, .ireturn, 1), (45, .iload_n 3, 1), (46, .iload_n 2, 1), (47, .invokestatic 44, 3), (50, .istore_n 3, 1), (51, .iinc 4 1, 3), (54, .goto (-49), 3), (57, .iconst 1, 1), (58, .ireturn, 1)]
set_option maxRecDepth 100000 in
theorem dk_X6_agree : dec_ok cX6_agree tb_X6_agree = true := by decide +kernel
def tb_X9_fits : List (Nat × Instr × Nat) := [(0, .iload_n 1, 1), (1, .iconst (-1), 1), (2, .if_icmp .ge 6, 3), (5, .bipush (-6), 2), (7, .ireturn, 1), (8, .iconst 0, 1), (9, .istore_n 2, 1), (10, .iconst 1, 1), (11, .istore_n 3, 1), (12, .iload_n 3, 1), (13, .bipush 9, 2), (15, .if_icmp .gt 54, 3), (18, .iconst 0, 1), (19, .istore 4, 2), (21, .iload 4, 2), (23, .bipush 9, 2), (25, .if_icmp .gt 38, 3), (28, .aload_n 0, 1), (29, .getfield 43, 3), (32, .iload_n 3, 1), (33, .iload 4, 2), (35, .invokevirtual 197, 3), (38, .ifCond .eq 19, 3), (41, .iload_n 2, 1), (42, .iload_n 1, 1), (43, .if_icmp .ne 11, 3), (46, .bipush 10, 2), (48, .iload_n 3, 1), (49, .imul, 1), (50, .iload 4, 2), (52, .iadd, 1), (53, .ireturn, 1), (54, .iinc 2 1, 3), (57, .iinc 4 1, 3), (60, .goto (-39), 3), (63, .iinc 3 1, 3), (66, .goto (-54), 3), (69, .iload_n 1, 1), (70, .iconst (-1), 1), (71, .if_icmp .ne 7, 3), (74, .iload_n 2, 1), (75, .goto 5, 3), (78, .bipush (-6), 2), (80, .ireturn, 1)]
set_option maxRecDepth 100000 in
theorem dk_X9_fits : dec_ok cX9_fits tb_X9_fits = true := by decide +kernel
def tb_X1_gather : List (Nat × Instr × Nat) := [(0, .aload_n 0, 1), (1, .iconst 0, 1), (2, .putfield 32, 3), (5, .iconst 1, 1), (6, .istore_n 2, 1), (7, .iload_n 2, 1), (8, .bipush 9, 2), (10, .if_icmp .gt 71, 3), (13, .iconst 0, 1), (14, .istore_n 3, 1), (15, .iload_n 3, 1), (16, .bipush 9, 2), (18, .if_icmp .gt 57, 3), (21, .aload_n 0, 1), (22, .getfield 32, 3), (25, .bipush 90, 2), (27, .if_icmp .ge 42, 3), (30, .aload_n 1, 1), (31, .iload_n 2, 1), (32, .iload_n 3, 1), (33, .invokevirtual 42, 3), (36, .ifCond .eq 33, 3), (39, .aload_n 0, 1), (40, .getfield 9, 3), (43, .aload_n 0, 1), (44, .getfield 32, 3), (47, .iload_n 2, 1), (48, .iastore, 1), (49, .aload_n 0, 1), (50, .getfield 15, 3), (53, .aload_n 0, 1), (54, .getfield 32, 3), (57, .iload_n 3, 1), (58, .iastore, 1), (59, .aload_n 0, 1), (60, .dup, 1), (61, .getfield 32, 3), (64, .iconst 1, 1), (65, .iadd, 1), (66, .putfield 32, 3), (69, .iinc 3 1, 3), (72, .goto (-57), 3), (75, .iinc 2 1, 3), (78, .goto (-71), 3), (81, .return_, 1)]
set_option maxRecDepth 100000 in
theorem dk_X1_gather : dec_ok cX1_gather tb_X1_gather = true := by decide +kernel
def tb_X1_mostAlike : List (Nat × Instr × Nat) := [(0, .aload_n 0, 1), (1, .getfield 18, 3), (4, .iconst 0, 1), (5, .invokestatic 48, 3), (8, .iconst 0, 1), (9, .istore_n 1, 1), (10, .iconst 0, 1), (11, .istore_n 2, 1), (12, .iload_n 2, 1), (13, .aload_n 0, 1), (14, .getfield 32, 3), (17, .if_icmp .ge 47, 3), (20, .aload_n 0, 1), (21, .getfield 9, 3), (24, .iload_n 2, 1), (25, .iaload, 1), (26, .istore_n 3, 1), (27, .iload_n 3, 1), (28, .iconst 0, 1), (29, .bipush 99, 2), (31, .invokestatic 54, 3), (34, .ifCond .eq 24, 3), (37, .aload_n 0, 1), (38, .getfield 18, 3), (41, .iload_n 3, 1), (42, .dup2, 1), (43, .iaload, 1), (44, .iconst 1, 1), (45, .iadd, 1), (46, .iastore, 1), (47, .iload_n 1, 1), (48, .aload_n 0, 1), (49, .getfield 18, 3), (52, .iload_n 3, 1), (53, .iaload, 1), (54, .invokestatic 58, 3), (57, .istore_n 1, 1), (58, .iinc 2 1, 3), (61, .goto (-49), 3), (64, .iload_n 1, 1), (65, .ireturn, 1)]
set_option maxRecDepth 100000 in
theorem dk_X1_mostAlike : dec_ok cX1_mostAlike tb_X1_mostAlike = true := by decide +kernel
def tb_X1_breedAll : List (Nat × Instr × Nat) := [(0, .iconst 0, 1), (1, .istore_n 1, 1), (2, .iload_n 1, 1), (3, .aload_n 0, 1), (4, .getfield 32, 3), (7, .if_icmp .ge 30, 3), (10, .aload_n 0, 1), (11, .getfield 9, 3), (14, .iload_n 1, 1), (15, .aload_n 0, 1), (16, .getfield 9, 3), (19, .iload_n 1, 1), (20, .iaload, 1), (21, .aload_n 0, 1), (22, .getfield 15, 3), (25, .iload_n 1, 1), (26, .iaload, 1), (27, .invokestatic 64, 3), (30, .iastore, 1), (31, .iinc 1 1, 3), (34, .goto (-32), 3), (37, .return_, 1)]
set_option maxRecDepth 100000 in
theorem dk_X1_breedAll : dec_ok cX1_breedAll tb_X1_breedAll = true := by decide +kernel
def tb_X1_weigh : List (Nat × Instr × Nat) := [(0, .aload_n 0, 1), (1, .aload_n 1, 1), (2, .invokevirtual 21, 3), (5, .aload_n 0, 1), (6, .bipush (-6), 2), (8, .putfield 25, 3), (11, .aload_n 0, 1), (12, .bipush (-6), 2), (14, .putfield 29, 3), (17, .iconst 0, 1), (18, .istore_n 2, 1), (19, .iload_n 2, 1), (20, .bipush 40, 2), (22, .if_icmp .gt 52, 3), (25, .aload_n 0, 1), (26, .getfield 32, 3), (29, .ifCond .le 45, 3), (32, .aload_n 0, 1), (33, .invokevirtual 35, 3), (36, .istore_n 3, 1), (37, .aload_n 0, 1), (38, .getfield 25, 3), (41, .bipush (-6), 2), (43, .if_icmp .eq 11, 3), (46, .iload_n 3, 1), (47, .aload_n 0, 1), (48, .getfield 29, 3), (51, .if_icmp .ge 13, 3), (54, .aload_n 0, 1), (55, .iload_n 2, 1), (56, .putfield 25, 3), (59, .aload_n 0, 1), (60, .iload_n 3, 1), (61, .putfield 29, 3), (64, .aload_n 0, 1), (65, .invokevirtual 39, 3), (68, .iinc 2 1, 3), (71, .goto (-52), 3), (74, .return_, 1)]
set_option maxRecDepth 100000 in
theorem dk_X1_weigh : dec_ok cX1_weigh tb_X1_weigh = true := by decide +kernel
def tb_X9_ask : List (Nat × Instr × Nat) := [(0, .iload_n 1, 1), (1, .iconst 0, 1), (2, .iconst 1, 1), (3, .invokestatic 79, 3), (6, .ifCond .ne 6, 3), (9, .bipush (-2), 2), (11, .ireturn, 1), (12, .aload_n 0, 1), (13, .getfield 50, 3), (16, .aload_n 0, 1), (17, .getfield 43, 3), (20, .invokevirtual 200, 3), (23, .iload_n 1, 1), (24, .ifCond .ne 13, 3), (27, .aload_n 0, 1), (28, .getfield 50, 3), (31, .getfield 204, 3), (34, .goto 10, 3), (37, .aload_n 0, 1), (38, .getfield 50, 3), (41, .getfield 205, 3), (44, .ireturn, 1)]
set_option maxRecDepth 100000 in
theorem dk_X9_ask : dec_ok cX9_ask tb_X9_ask = true := by decide +kernel
def tb_X3_shutIn : List (Nat × Instr × Nat) := [(0, .iconst 0, 1), (1, .istore_n 1, 1), (2, .iload_n 1, 1), (3, .bipush 8, 2), (5, .if_icmp .ge 62, 3), (8, .aload_n 0, 1), (9, .getfield 18, 3), (12, .iload_n 1, 1), (13, .iconst 1, 1), (14, .iload_n 1, 1), (15, .ishl, 1), (16, .iastore, 1), (17, .iconst 0, 1), (18, .istore_n 2, 1), (19, .iload_n 2, 1), (20, .bipush 8, 2), (22, .if_icmp .ge 39, 3), (25, .aload_n 0, 1), (26, .getfield 9, 3), (29, .iload_n 2, 1), (30, .iaload, 1), (31, .aload_n 0, 1), (32, .getfield 15, 3), (35, .iload_n 1, 1), (36, .iaload, 1), (37, .iconst (-1), 1), (38, .ixor, 1), (39, .iand, 1), (40, .ifCond .ne 15, 3), (43, .aload_n 0, 1), (44, .getfield 18, 3), (47, .iload_n 1, 1), (48, .dup2, 1), (49, .iaload, 1), (50, .iconst 1, 1), (51, .iload_n 2, 1), (52, .ishl, 1), (53, .ior, 1), (54, .iastore, 1), (55, .iinc 2 1, 3), (58, .goto (-39), 3), (61, .iinc 1 1, 3), (64, .goto (-62), 3), (67, .return_, 1)]
set_option maxRecDepth 100000 in
theorem dk_X3_shutIn : dec_ok cX3_shutIn tb_X3_shutIn = true := by decide +kernel
def tb_X3_firstGoing : List (Nat × Instr × Nat) := [(0, .iconst 0, 1), (1, .istore_n 3, 1), (2, .iload_n 3, 1), (3, .bipush 8, 2), (5, .if_icmp .ge 39, 3), (8, .aload_n 0, 1), (9, .getfield 9, 3), (12, .iload_n 1, 1), (13, .iaload, 1), (14, .iload_n 3, 1), (15, .ishr, 1), (16, .iconst 1, 1), (17, .iand, 1), (18, .iconst 1, 1), (19, .if_icmp .ne 19, 3), (22, .aload_n 0, 1), (23, .getfield 18, 3), (26, .iload_n 3, 1), (27, .iaload, 1), (28, .iload_n 2, 1), (29, .ishr, 1), (30, .iconst 1, 1), (31, .iand, 1), (32, .iconst 1, 1), (33, .if_icmp .ne 5, 3), (36, .iload_n 3, 1), (37, .ireturn, 1), (38, .iinc 3 1, 3), (41, .goto (-39), 3), (44, .bipush (-6), 2), (46, .ireturn, 1)]
set_option maxRecDepth 100000 in
theorem dk_X3_firstGoing : dec_ok cX3_firstGoing tb_X3_firstGoing = true := by decide +kernel
def tb_X3_widen : List (Nat × Instr × Nat) := [(0, .iconst 0, 1), (1, .istore_n 1, 1), (2, .iconst 0, 1), (3, .istore_n 2, 1), (4, .iload_n 2, 1), (5, .bipush 8, 2), (7, .if_icmp .ge 82, 3), (10, .aload_n 0, 1), (11, .getfield 15, 3), (14, .iload_n 2, 1), (15, .iaload, 1), (16, .istore_n 3, 1), (17, .iconst 0, 1), (18, .istore 4, 2), (20, .iload 4, 2), (22, .bipush 8, 2), (24, .if_icmp .ge 34, 3), (27, .aload_n 0, 1), (28, .getfield 9, 3), (31, .iload_n 2, 1), (32, .iaload, 1), (33, .iload 4, 2), (35, .ishr, 1), (36, .iconst 1, 1), (37, .iand, 1), (38, .iconst 1, 1), (39, .if_icmp .ne 13, 3), (42, .iload_n 3, 1), (43, .aload_n 0, 1), (44, .getfield 18, 3), (47, .iload 4, 2), (49, .iaload, 1), (50, .ior, 1), (51, .istore_n 3, 1), (52, .iinc 4 1, 3), (55, .goto (-35), 3), (58, .iload_n 1, 1), (59, .iload_n 3, 1), (60, .aload_n 0, 1), (61, .getfield 15, 3), (64, .iload_n 2, 1), (65, .iaload, 1), (66, .if_icmp .eq 7, 3), (69, .iconst 1, 1), (70, .goto 4, 3), (73, .iconst 0, 1), (74, .ior, 1), (75, .istore_n 1, 1), (76, .aload_n 0, 1), (77, .getfield 15, 3), (80, .iload_n 2, 1), (81, .iload_n 3, 1), (82, .iastore, 1), (83, .iinc 2 1, 3), (86, .goto (-82), 3), (89, .iload_n 1, 1), (90, .ireturn, 1)]
set_option maxRecDepth 100000 in
theorem dk_X3_widen : dec_ok cX3_widen tb_X3_widen = true := by decide +kernel
def tb_X3_follow : List (Nat × Instr × Nat) := [(0, .aload_n 0, 1), (1, .iload_n 2, 1), (2, .iload_n 3, 1), (3, .if_icmp .ne 7, 3), (6, .iconst 0, 1), (7, .goto 5, 3), (10, .bipush (-6), 2), (12, .putfield 21, 3), (15, .aload_n 0, 1), (16, .bipush (-6), 2), (18, .putfield 25, 3), (21, .iconst 0, 1), (22, .istore 4, 2), (24, .iload 4, 2), (26, .bipush 8, 2), (28, .if_icmp .ge 43, 3), (31, .iload 4, 2), (33, .aload_n 1, 1), (34, .arraylength, 1), (35, .if_icmp .ge 36, 3), (38, .aload_n 0, 1), (39, .getfield 9, 3), (42, .iload 4, 2), (44, .aload_n 1, 1), (45, .iload 4, 2), (47, .iaload, 1), (48, .iconst 1, 1), (49, .iload 4, 2), (51, .ishl, 1), (52, .ior, 1), (53, .iastore, 1), (54, .aload_n 0, 1), (55, .getfield 15, 3), (58, .iload 4, 2), (60, .iconst 1, 1), (61, .iload 4, 2), (63, .ishl, 1), (64, .iastore, 1), (65, .iinc 4 1, 3), (68, .goto (-44), 3), (71, .iconst 1, 1), (72, .istore 4, 2), (74, .iconst 1, 1), (75, .istore 5, 2), (77, .iload 5, 2), (79, .bipush 64, 2), (81, .if_icmp .gt 58, 3), (84, .aload_n 0, 1), (85, .getfield 21, 3), (88, .bipush (-6), 2), (90, .if_icmp .ne 49, 3), (93, .iload 4, 2), (95, .ifCond .eq 44, 3), (98, .aload_n 0, 1), (99, .invokevirtual 28, 3), (102, .aload_n 0, 1), (103, .aload_n 0, 1), (104, .iload_n 2, 1), (105, .iload_n 3, 1), (106, .invokevirtual 31, 3), (109, .putfield 25, 3), (112, .aload_n 0, 1), (113, .getfield 25, 3), (116, .bipush (-6), 2), (118, .if_icmp .eq 9, 3), (121, .aload_n 0, 1), (122, .iload 5, 2), (124, .putfield 21, 3), (127, .aload_n 0, 1), (128, .invokevirtual 35, 3), (131, .istore 4, 2), (133, .iinc 5 1, 3), (136, .goto (-59), 3), (139, .return_, 1)]
set_option maxRecDepth 100000 in
theorem dk_X3_follow : dec_ok cX3_follow tb_X3_follow = true := by decide +kernel
def tb_X9_chase : List (Nat × Instr × Nat) := [(0, .iload_n 1, 1), (1, .invokestatic 75, 3), (4, .ifCond .eq 10, 3), (7, .iload_n 2, 1), (8, .invokestatic 75, 3), (11, .ifCond .ne 5, 3), (14, .iconst (-1), 1), (15, .ireturn, 1), (16, .iload_n 3, 1), (17, .iconst 0, 1), (18, .iconst 1, 1), (19, .invokestatic 79, 3), (22, .ifCond .ne 6, 3), (25, .bipush (-2), 2), (27, .ireturn, 1), (28, .aload_n 0, 1), (29, .getfield 64, 3), (32, .aload_n 0, 1), (33, .getfield 10, 3), (36, .getfield 208, 3), (39, .iload_n 1, 1), (40, .iload_n 2, 1), (41, .invokevirtual 211, 3), (44, .iload_n 3, 1), (45, .ifCond .ne 13, 3), (48, .aload_n 0, 1), (49, .getfield 64, 3), (52, .getfield 214, 3), (55, .goto 10, 3), (58, .aload_n 0, 1), (59, .getfield 64, 3), (62, .getfield 217, 3), (65, .ireturn, 1)]
set_option maxRecDepth 100000 in
theorem dk_X9_chase : dec_ok cX9_chase tb_X9_chase = true := by decide +kernel
def tb_X9_commonDivisor : List (Nat × Instr × Nat) := [(0, .lload_n 0, 1), (1, .lstore 4, 2), (3, .lload_n 2, 1), (4, .lstore 6, 2), (6, .iconst 0, 1), (7, .istore 8, 2), (9, .iload 8, 2), (11, .bipush 100, 2), (13, .if_icmp .ge 31, 3), (16, .lload 6, 2), (18, .lconst 0, 1), (19, .lcmp, 1), (20, .ifCond .eq 24, 3), (23, .lload 4, 2), (25, .lload 6, 2), (27, .lrem, 1), (28, .lstore 9, 2), (30, .lload 6, 2), (32, .lstore 4, 2), (34, .lload 9, 2), (36, .lstore 6, 2), (38, .iinc 8 1, 3), (41, .goto (-32), 3), (44, .lload 4, 2), (46, .lreturn, 1)]
set_option maxRecDepth 100000 in
theorem dk_X9_commonDivisor : dec_ok cX9_commonDivisor tb_X9_commonDivisor = true := by decide +kernel
def tb_X9_power : List (Nat × Instr × Nat) := [(0, .lconst 1, 1), (1, .lstore_n 3, 1), (2, .iconst 0, 1), (3, .istore 5, 2), (5, .iload 5, 2), (7, .iload_n 2, 1), (8, .if_icmp .ge 13, 3), (11, .lload_n 3, 1), (12, .lload_n 0, 1), (13, .lmul, 1), (14, .lstore_n 3, 1), (15, .iinc 5 1, 3), (18, .goto (-13), 3), (21, .lload_n 3, 1), (22, .lreturn, 1)]
set_option maxRecDepth 100000 in
theorem dk_X9_power : dec_ok cX9_power tb_X9_power = true := by decide +kernel
def tb_X9_ever : List (Nat × Instr × Nat) := [(0, .iload_n 1, 1), (1, .iconst 1, 1), (2, .bipush 16, 2), (4, .invokestatic 79, 3), (7, .ifCond .eq 32, 3), (10, .iload_n 2, 1), (11, .iconst 0, 1), (12, .iload_n 1, 1), (13, .invokestatic 79, 3), (16, .ifCond .eq 23, 3), (19, .iload_n 3, 1), (20, .iconst 1, 1), (21, .bipush 9, 2), (23, .invokestatic 79, 3), (26, .ifCond .eq 13, 3), (29, .iload 4, 2), (31, .iconst 0, 1), (32, .iconst 1, 1), (33, .invokestatic 79, 3), (36, .ifCond .ne 7, 3), (39, .ldc2_w 220, 3), (42, .lreturn, 1), (43, .iload_n 3, 1), (44, .i2l, 1), (45, .lstore 5, 2), (47, .bipush 10, 2), (49, .iload_n 3, 1), (50, .isub, 1), (51, .i2l, 1), (52, .lstore 7, 2), (54, .iload_n 1, 1), (55, .iload_n 2, 1), (56, .isub, 1), (57, .i2l, 1), (58, .lstore 9, 2), (60, .iload_n 1, 1), (61, .i2l, 1), (62, .lstore 11, 2), (64, .lload 5, 2), (66, .lload 7, 2), (68, .lcmp, 1), (69, .ifCond .eq 42, 3), (72, .lload 7, 2), (74, .iload_n 2, 1), (75, .invokestatic 222, 3), (78, .lload 5, 2), (80, .iload_n 1, 1), (81, .iload_n 2, 1), (82, .isub, 1), (83, .invokestatic 222, 3), (86, .lmul, 1), (87, .lload 7, 2), (89, .iload_n 1, 1), (90, .invokestatic 222, 3), (93, .lsub, 1), (94, .lstore 9, 2), (96, .lload 5, 2), (98, .iload_n 1, 1), (99, .invokestatic 222, 3), (102, .lload 7, 2), (104, .iload_n 1, 1), (105, .invokestatic 222, 3), (108, .lsub, 1), (109, .lstore 11, 2), (111, .lload 9, 2), (113, .invokestatic 226, 3), (116, .lstore 9, 2), (118, .lload 11, 2), (120, .invokestatic 226, 3), (123, .lstore 11, 2), (125, .lload 9, 2), (127, .lload 11, 2), (129, .invokestatic 232, 3), (132, .lstore 13, 2), (134, .lload 13, 2), (136, .lconst 1, 1), (137, .lcmp, 1), (138, .ifCond .ge 6, 3), (141, .lconst 1, 1), (142, .lstore 13, 2), (144, .iload 4, 2), (146, .ifCond .ne 8, 3), (149, .lload 9, 2), (151, .goto 5, 3), (154, .lload 11, 2), (156, .lload 13, 2), (158, .ldiv, 1), (159, .lreturn, 1)]
set_option maxRecDepth 100000 in
theorem dk_X9_ever : dec_ok cX9_ever tb_X9_ever = true := by decide +kernel
def tb_J9_floorMod_7cf53 : List (Nat × Instr × Nat) := [(0, .iload_n 0, 1), (1, .iload_n 1, 1), (2, .irem, 1), (3, .istore_n 2, 1), (4, .iload_n 0, 1), (5, .iload_n 1, 1), (6, .ixor, 1), (7, .ifCond .ge 11, 3), (10, .iload_n 2, 1), (11, .ifCond .eq 7, 3), (14, .iload_n 2, 1), (15, .iload_n 1, 1), (16, .iadd, 1), (17, .ireturn, 1), (18, .iload_n 2, 1), (19, .ireturn, 1)]
set_option maxRecDepth 100000 in
theorem dk_J9_floorMod_7cf53 : dec_ok cJ9_floorMod_7cf53 tb_J9_floorMod_7cf53 = true := by decide +kernel
def tb_X0_draw : List (Nat × Instr × Nat) := [(0, .iload_n 1, 1), (1, .bipush 64, 2), (3, .idiv, 1), (4, .istore_n 2, 1), (5, .aload_n 0, 1), (6, .getstatic 30, 3), (9, .iload_n 1, 1), (10, .bipush 8, 2), (12, .idiv, 1), (13, .getstatic 30, 3), (16, .arraylength, 1), (17, .invokestatic 34, 3), (20, .iaload, 1), (21, .putfield 15, 3), (24, .aload_n 0, 1), (25, .iload_n 1, 1), (26, .bipush 8, 2), (28, .invokestatic 34, 3), (31, .putfield 21, 3), (34, .aload_n 0, 1), (35, .iload_n 2, 1), (36, .bipush 8, 2), (38, .invokestatic 34, 3), (41, .putfield 24, 3), (44, .aload_n 0, 1), (45, .getfield 15, 3), (48, .bipush 33, 2), (50, .if_icmp .ne 14, 3), (53, .iload_n 2, 1), (54, .iconst 4, 1), (55, .irem, 1), (56, .ifCond .eq 8, 3), (59, .aload_n 0, 1), (60, .iconst 0, 1), (61, .putfield 15, 3), (64, .return_, 1)]
set_option maxRecDepth 100000 in
theorem dk_X0_draw : dec_ok cX0_draw tb_X0_draw = true := by decide +kernel
def tb_X9_year : List (Nat × Instr × Nat) := [(0, .iload_n 1, 1), (1, .iconst 0, 1), (2, .sipush 9999, 3), (5, .invokestatic 79, 3), (8, .ifCond .eq 22, 3), (11, .iload_n 2, 1), (12, .iconst 1, 1), (13, .bipush 99, 2), (15, .invokestatic 79, 3), (18, .ifCond .eq 12, 3), (21, .iload_n 3, 1), (22, .iconst 0, 1), (23, .iconst 2, 1), (24, .invokestatic 79, 3), (27, .ifCond .ne 6, 3), (30, .bipush (-2), 2), (32, .ireturn, 1), (33, .aload_n 0, 1), (34, .getfield 16, 3), (37, .aload_n 0, 1), (38, .getfield 10, 3), (41, .invokevirtual 152, 3), (44, .iload_n 1, 1), (45, .istore 4, 2), (47, .iconst 0, 1), (48, .istore 5, 2), (50, .iload 5, 2), (52, .iload_n 2, 1), (53, .if_icmp .ge 66, 3), (56, .bipush 75, 2), (58, .iload 4, 2), (60, .imul, 1), (61, .bipush 74, 2), (63, .iadd, 1), (64, .ldc 236, 2), (66, .irem, 1), (67, .istore 4, 2), (69, .aload_n 0, 1), (70, .getfield 29, 3), (73, .iload 4, 2), (75, .invokevirtual 237, 3), (78, .aload_n 0, 1), (79, .getfield 29, 3), (82, .getfield 241, 3), (85, .ifCond .eq 28, 3), (88, .aload_n 0, 1), (89, .getfield 16, 3), (92, .aload_n 0, 1), (93, .getfield 29, 3), (96, .invokevirtual 244, 3), (99, .ifCond .ne 14, 3), (102, .aload_n 0, 1), (103, .getfield 16, 3), (106, .aload_n 0, 1), (107, .getfield 29, 3), (110, .invokevirtual 248, 3), (113, .iinc 5 1, 3), (116, .goto (-66), 3), (119, .iload_n 3, 1), (120, .lookupswitch 44 #[(0, 28), (1, 36)], 28), (148, .aload_n 0, 1), (149, .getfield 16, 3), (152, .invokevirtual 137, 3), (155, .ireturn, 1), (156, .aload_n 0, 1), (157, .getfield 16, 3), (160, .getfield 130, 3), (163, .ireturn, 1), (164, .aload_n 0, 1), (165, .getfield 16, 3), (168, .invokevirtual 143, 3), (171, .invokestatic 169, 3), (174, .ireturn, 1)]
set_option maxRecDepth 100000 in
theorem dk_X9_year : dec_ok cX9_year tb_X9_year = true := by decide +kernel
def tb_X6_become : List (Nat × Instr × Nat) := [(0, .aload_n 1, 1), (1, .getfield 9, 3), (4, .iconst 0, 1), (5, .aload_n 0, 1), (6, .getfield 9, 3), (9, .iconst 0, 1), (10, .bipush 41, 2), (12, .invokestatic 28, 3), (15, .aload_n 0, 1), (16, .aload_n 1, 1), (17, .getfield 25, 3), (20, .putfield 25, 3), (23, .aload_n 0, 1), (24, .aload_n 1, 1), (25, .getfield 21, 3), (28, .putfield 21, 3), (31, .return_, 1)]
set_option maxRecDepth 100000 in
theorem dk_X6_become : dec_ok cX6_become tb_X6_become = true := by decide +kernel
def tb_X9_image : List (Nat × Instr × Nat) := [(0, .iload_n 1, 1), (1, .iconst 0, 1), (2, .iconst 1, 1), (3, .invokestatic 79, 3), (6, .ifCond .ne 6, 3), (9, .bipush (-2), 2), (11, .ireturn, 1), (12, .aload_n 0, 1), (13, .getfield 70, 3), (16, .iload_n 1, 1), (17, .aaload, 1), (18, .getfield 252, 3), (21, .aload_n 0, 1), (22, .getfield 10, 3), (25, .invokevirtual 152, 3), (28, .aload_n 0, 1), (29, .getfield 70, 3), (32, .iload_n 1, 1), (33, .aaload, 1), (34, .getfield 255, 3), (37, .aload_n 0, 1), (38, .getfield 43, 3), (41, .invokevirtual 256, 3), (44, .aload_n 0, 1), (45, .getfield 70, 3), (48, .iload_n 1, 1), (49, .aaload, 1), (50, .iconst 1, 1), (51, .putfield 258, 3), (54, .iconst 1, 1), (55, .ireturn, 1)]
set_option maxRecDepth 100000 in
theorem dk_X9_image : dec_ok cX9_image tb_X9_image = true := by decide +kernel
def tb_X9_restore : List (Nat × Instr × Nat) := [(0, .iload_n 1, 1), (1, .iconst 0, 1), (2, .iconst 1, 1), (3, .invokestatic 79, 3), (6, .ifCond .ne 6, 3), (9, .bipush (-2), 2), (11, .ireturn, 1), (12, .aload_n 0, 1), (13, .getfield 70, 3), (16, .iload_n 1, 1), (17, .aaload, 1), (18, .getfield 258, 3), (21, .ifCond .ne 6, 3), (24, .bipush (-3), 2), (26, .ireturn, 1), (27, .aload_n 0, 1), (28, .getfield 10, 3), (31, .aload_n 0, 1), (32, .getfield 70, 3), (35, .iload_n 1, 1), (36, .aaload, 1), (37, .getfield 252, 3), (40, .invokevirtual 152, 3), (43, .aload_n 0, 1), (44, .getfield 43, 3), (47, .aload_n 0, 1), (48, .getfield 70, 3), (51, .iload_n 1, 1), (52, .aaload, 1), (53, .getfield 255, 3), (56, .invokevirtual 256, 3), (59, .iconst 1, 1), (60, .ireturn, 1)]
set_option maxRecDepth 100000 in
theorem dk_X9_restore : dec_ok cX9_restore tb_X9_restore = true := by decide +kernel
def tb_X9_told : List (Nat × Instr × Nat) := [(0, .iload_n 1, 1), (1, .bipush 10, 2), (3, .bipush 17, 2), (5, .invokestatic 79, 3), (8, .ifCond .eq 16, 3), (11, .aload_n 0, 1), (12, .getfield 10, 3), (15, .getfield 208, 3), (18, .iload_n 1, 1), (19, .bipush 10, 2), (21, .isub, 1), (22, .iaload, 1), (23, .ireturn, 1), (24, .iload_n 1, 1), (25, .bipush 100, 2), (27, .sipush 179, 3), (30, .invokestatic 79, 3), (33, .ifCond .eq 34, 3), (36, .iload_n 1, 1), (37, .bipush 10, 2), (39, .irem, 1), (40, .istore_n 2, 1), (41, .iload_n 2, 1), (42, .iconst 3, 1), (43, .if_icmp .gt 21, 3), (46, .aload_n 0, 1), (47, .getfield 10, 3), (50, .iload_n 1, 1), (51, .bipush 100, 2), (53, .isub, 1), (54, .bipush 10, 2), (56, .idiv, 1), (57, .iload_n 2, 1), (58, .invokevirtual 133, 3), (61, .goto 5, 3), (64, .bipush (-2), 2), (66, .ireturn, 1), (67, .iload_n 1, 1), (68, .tableswitch 88 0 5 #[40, 48, 56, 64, 72, 80], 40), (108, .aload_n 0, 1), (109, .getfield 22, 3), (112, .getfield 115, 3), (115, .ireturn, 1), (116, .aload_n 0, 1), (117, .getfield 10, 3), (120, .invokevirtual 143, 3), (123, .ireturn, 1), (124, .aload_n 0, 1), (125, .getfield 10, 3), (128, .getfield 108, 3), (131, .ireturn, 1), (132, .aload_n 0, 1), (133, .getfield 10, 3), (136, .getfield 130, 3), (139, .ireturn, 1), (140, .aload_n 0, 1), (141, .getfield 10, 3), (144, .getfield 140, 3), (147, .ireturn, 1), (148, .aload_n 0, 1), (149, .getfield 43, 3), (152, .getfield 193, 3), (155, .ireturn, 1), (156, .bipush (-2), 2), (158, .ireturn, 1)]
set_option maxRecDepth 100000 in
theorem dk_X9_told : dec_ok cX9_told tb_X9_told = true := by decide +kernel
def tb_X10_in : List (Nat × Instr × Nat) := [(0, .lload_n 0, 1), (1, .lload_n 2, 1), (2, .lcmp, 1), (3, .ifCond .lt 14, 3), (6, .lload_n 0, 1), (7, .lload 4, 2), (9, .lcmp, 1), (10, .ifCond .gt 7, 3), (13, .iconst 1, 1), (14, .goto 4, 3), (17, .iconst 0, 1), (18, .ireturn, 1)]
set_option maxRecDepth 100000 in
theorem dk_X10_in : dec_ok cX10_in tb_X10_in = true := by decide +kernel
def tb_X10_isHouse : List (Nat × Instr × Nat) := [(0, .iload_n 0, 1), (1, .i2l, 1), (2, .lconst 0, 1), (3, .ldc2_w 78, 3), (6, .invokestatic 80, 3), (9, .ireturn, 1)]
set_option maxRecDepth 100000 in
theorem dk_X10_isHouse : dec_ok cX10_isHouse tb_X10_isHouse = true := by decide +kernel
def tb_X10_house : List (Nat × Instr × Nat) := [(0, .iload_n 1, 1), (1, .invokestatic 84, 3), (4, .ifCond .ne 5, 3), (7, .iconst (-1), 1), (8, .ireturn, 1), (9, .iload_n 2, 1), (10, .i2l, 1), (11, .lconst 0, 1), (12, .ldc2_w 88, 3), (15, .invokestatic 80, 3), (18, .ifCond .eq 41, 3), (21, .iload_n 3, 1), (22, .i2l, 1), (23, .lconst 0, 1), (24, .ldc2_w 90, 3), (27, .invokestatic 80, 3), (30, .ifCond .eq 29, 3), (33, .iload 4, 2), (35, .i2l, 1), (36, .lconst 0, 1), (37, .ldc2_w 90, 3), (40, .invokestatic 80, 3), (43, .ifCond .eq 16, 3), (46, .iload 5, 2), (48, .i2l, 1), (49, .lconst 0, 1), (50, .ldc2_w 90, 3), (53, .invokestatic 80, 3), (56, .ifCond .ne 6, 3), (59, .bipush (-2), 2), (61, .ireturn, 1), (62, .aload_n 0, 1), (63, .getfield 7, 3), (66, .iload_n 1, 1), (67, .iaload, 1), (68, .istore 6, 2), (70, .aload_n 0, 1), (71, .getfield 7, 3), (74, .iload_n 1, 1), (75, .iload_n 2, 1), (76, .iastore, 1), (77, .aload_n 0, 1), (78, .getfield 13, 3), (81, .iload_n 1, 1), (82, .iload_n 3, 1), (83, .iastore, 1), (84, .aload_n 0, 1), (85, .getfield 16, 3), (88, .iload_n 1, 1), (89, .iload 4, 2), (91, .iastore, 1), (92, .aload_n 0, 1), (93, .getfield 19, 3), (96, .iload_n 1, 1), (97, .iload 5, 2), (99, .iastore, 1), (100, .iload 6, 2), (102, .ireturn, 1)]
set_option maxRecDepth 100000 in
theorem dk_X10_house : dec_ok cX10_house tb_X10_house = true := by decide +kernel
def tb_X10_with : List (Nat × Instr × Nat) := [(0, .iload_n 2, 1), (1, .ifCond .eq 11, 3), (4, .iload_n 0, 1), (5, .iconst 1, 1), (6, .iload_n 1, 1), (7, .ishl, 1), (8, .ior, 1), (9, .goto 10, 3), (12, .iload_n 0, 1), (13, .iconst 1, 1), (14, .iload_n 1, 1), (15, .ishl, 1), (16, .iconst (-1), 1), (17, .ixor, 1), (18, .iand, 1), (19, .ireturn, 1)]
set_option maxRecDepth 100000 in
theorem dk_X10_with : dec_ok cX10_with tb_X10_with = true := by decide +kernel
def tb_X10_bore : List (Nat × Instr × Nat) := [(0, .aload_n 0, 1), (1, .getfield 22, 3), (4, .iload_n 1, 1), (5, .aload_n 0, 1), (6, .getfield 22, 3), (9, .iload_n 1, 1), (10, .iaload, 1), (11, .iload_n 2, 1), (12, .iload_n 3, 1), (13, .invokestatic 92, 3), (16, .iastore, 1), (17, .aload_n 0, 1), (18, .getfield 22, 3), (21, .iload_n 2, 1), (22, .aload_n 0, 1), (23, .getfield 22, 3), (26, .iload_n 2, 1), (27, .iaload, 1), (28, .iload_n 1, 1), (29, .iload_n 3, 1), (30, .invokestatic 92, 3), (33, .iastore, 1), (34, .return_, 1)]
set_option maxRecDepth 100000 in
theorem dk_X10_bore : dec_ok cX10_bore tb_X10_bore = true := by decide +kernel
def tb_X10_ones : List (Nat × Instr × Nat) := [(0, .iconst 0, 1), (1, .istore_n 1, 1), (2, .iload_n 0, 1), (3, .istore_n 2, 1), (4, .iload_n 2, 1), (5, .ifCond .eq 15, 3), (8, .iinc 1 1, 3), (11, .iload_n 2, 1), (12, .iload_n 2, 1), (13, .iconst 1, 1), (14, .isub, 1), (15, .iand, 1), (16, .istore_n 2, 1), (17, .goto (-13), 3), (20, .iload_n 1, 1), (21, .ireturn, 1)]
set_option maxRecDepth 100000 in
theorem dk_X10_ones : dec_ok cX10_ones tb_X10_ones = true := by decide +kernel
def tb_X10_hole : List (Nat × Instr × Nat) := [(0, .iload_n 1, 1), (1, .invokestatic 84, 3), (4, .ifCond .eq 15, 3), (7, .iload_n 2, 1), (8, .invokestatic 84, 3), (11, .ifCond .eq 8, 3), (14, .iload_n 1, 1), (15, .iload_n 2, 1), (16, .if_icmp .ne 5, 3), (19, .iconst (-1), 1), (20, .ireturn, 1), (21, .aload_n 0, 1), (22, .iload_n 1, 1), (23, .iload_n 2, 1), (24, .iload_n 3, 1), (25, .invokevirtual 96, 3), (28, .iconst 0, 1), (29, .istore 4, 2), (31, .iconst 0, 1), (32, .istore 5, 2), (34, .iload 5, 2), (36, .bipush 8, 2), (38, .if_icmp .ge 24, 3), (41, .iload 4, 2), (43, .aload_n 0, 1), (44, .getfield 22, 3), (47, .iload 5, 2), (49, .iaload, 1), (50, .invokestatic 100, 3), (53, .iadd, 1), (54, .istore 4, 2), (56, .iinc 5 1, 3), (59, .goto (-25), 3), (62, .iload 4, 2), (64, .iconst 2, 1), (65, .idiv, 1), (66, .ireturn, 1)]
set_option maxRecDepth 100000 in
theorem dk_X10_hole : dec_ok cX10_hole tb_X10_hole = true := by decide +kernel
def tb_X10_bag : List (Nat × Instr × Nat) := [(0, .iload_n 1, 1), (1, .i2l, 1), (2, .lconst 0, 1), (3, .ldc2_w 88, 3), (6, .invokestatic 80, 3), (9, .ifCond .ne 6, 3), (12, .bipush (-2), 2), (14, .ireturn, 1), (15, .aload_n 0, 1), (16, .getfield 74, 3), (19, .istore_n 2, 1), (20, .aload_n 0, 1), (21, .iload_n 1, 1), (22, .putfield 74, 3), (25, .iload_n 2, 1), (26, .ireturn, 1)]
set_option maxRecDepth 100000 in
theorem dk_X10_bag : dec_ok cX10_bag tb_X10_bag = true := by decide +kernel
def tb_X10_say : List (Nat × Instr × Nat) := [(0, .iload_n 1, 1), (1, .i2l, 1), (2, .ldc2_w 104, 3), (5, .ldc2_w 106, 3), (8, .invokestatic 80, 3), (11, .ifCond .ne 6, 3), (14, .bipush (-2), 2), (16, .ireturn, 1), (17, .aload_n 0, 1), (18, .getfield 108, 3), (21, .bipush 60, 2), (23, .if_icmp .ne 6, 3), (26, .bipush (-4), 2), (28, .ireturn, 1), (29, .aload_n 0, 1), (30, .getfield 31, 3), (33, .aload_n 0, 1), (34, .getfield 108, 3), (37, .iload_n 1, 1), (38, .iastore, 1), (39, .aload_n 0, 1), (40, .dup, 1), (41, .getfield 108, 3), (44, .iconst 1, 1), (45, .iadd, 1), (46, .putfield 108, 3), (49, .aload_n 0, 1), (50, .getfield 108, 3), (53, .ireturn, 1)]
set_option maxRecDepth 100000 in
theorem dk_X10_say : dec_ok cX10_say tb_X10_say = true := by decide +kernel
def tb_X10_wipe : List (Nat × Instr × Nat) := [(0, .aload_n 0, 1), (1, .getfield 108, 3), (4, .istore_n 1, 1), (5, .aload_n 0, 1), (6, .iconst 0, 1), (7, .putfield 108, 3), (10, .iload_n 1, 1), (11, .ireturn, 1)]
set_option maxRecDepth 100000 in
theorem dk_X10_wipe : dec_ok cX10_wipe tb_X10_wipe = true := by decide +kernel
def tb_X10_isName : List (Nat × Instr × Nat) := [(0, .iload_n 0, 1), (1, .i2l, 1), (2, .ldc2_w 114, 3), (5, .ldc2_w 116, 3), (8, .invokestatic 80, 3), (11, .ireturn, 1)]
set_option maxRecDepth 100000 in
theorem dk_X10_isName : dec_ok cX10_isName tb_X10_isName = true := by decide +kernel
def tb_X10_close : List (Nat × Instr × Nat) := [(0, .aload_n 0, 1), (1, .getfield 34, 3), (4, .aload_n 0, 1), (5, .getfield 111, 3), (8, .iload_n 1, 1), (9, .iastore, 1), (10, .aload_n 0, 1), (11, .dup, 1), (12, .getfield 111, 3), (15, .iconst 1, 1), (16, .iadd, 1), (17, .putfield 111, 3), (20, .iconst 0, 1), (21, .ireturn, 1)]
set_option maxRecDepth 100000 in
theorem dk_X10_close : dec_ok cX10_close tb_X10_close = true := by decide +kernel
def tb_X10_end : List (Nat × Instr × Nat) := [(0, .iload_n 2, 1), (1, .invokestatic 118, 3), (4, .ifCond .ne 6, 3), (7, .bipush (-6), 2), (9, .ireturn, 1), (10, .iload_n 1, 1), (11, .iconst 2, 1), (12, .if_icmp .ne 18, 3), (15, .aload_n 0, 1), (16, .getfield 37, 3), (19, .aload_n 0, 1), (20, .getfield 111, 3), (23, .iload_n 2, 1), (24, .bipush 65, 2), (26, .isub, 1), (27, .iastore, 1), (28, .iconst 3, 1), (29, .ireturn, 1), (30, .aload_n 0, 1), (31, .getfield 40, 3), (34, .aload_n 0, 1), (35, .getfield 111, 3), (38, .iload_n 2, 1), (39, .bipush 65, 2), (41, .isub, 1), (42, .iastore, 1), (43, .aload_n 0, 1), (44, .iconst 5, 1), (45, .invokevirtual 121, 3), (48, .ireturn, 1)]
set_option maxRecDepth 100000 in
theorem dk_X10_end : dec_ok cX10_end tb_X10_end = true := by decide +kernel
def tb_X10_deed : List (Nat × Instr × Nat) := [(0, .iload_n 1, 1), (1, .lookupswitch 81 #[(33, 75), (43, 51), (45, 57), (94, 63), (95, 69)], 51), (52, .aload_n 0, 1), (53, .iconst 0, 1), (54, .invokevirtual 121, 3), (57, .ireturn, 1), (58, .aload_n 0, 1), (59, .iconst 1, 1), (60, .invokevirtual 121, 3), (63, .ireturn, 1), (64, .aload_n 0, 1), (65, .iconst 2, 1), (66, .invokevirtual 121, 3), (69, .ireturn, 1), (70, .aload_n 0, 1), (71, .iconst 3, 1), (72, .invokevirtual 121, 3), (75, .ireturn, 1), (76, .aload_n 0, 1), (77, .iconst 4, 1), (78, .invokevirtual 121, 3), (81, .ireturn, 1), (82, .bipush (-6), 2), (84, .ireturn, 1)]
set_option maxRecDepth 100000 in
theorem dk_X10_deed : dec_ok cX10_deed tb_X10_deed = true := by decide +kernel
def tb_X10_begin : List (Nat × Instr × Nat) := [(0, .aload_n 0, 1), (1, .getfield 37, 3), (4, .aload_n 0, 1), (5, .getfield 111, 3), (8, .iload_n 1, 1), (9, .invokestatic 118, 3), (12, .ifCond .eq 10, 3), (15, .iload_n 1, 1), (16, .bipush 65, 2), (18, .isub, 1), (19, .goto 4, 3), (22, .iconst 0, 1), (23, .iastore, 1), (24, .aload_n 0, 1), (25, .getfield 40, 3), (28, .aload_n 0, 1), (29, .getfield 111, 3), (32, .iconst 0, 1), (33, .iastore, 1), (34, .iload_n 1, 1), (35, .invokestatic 118, 3), (38, .ifCond .eq 7, 3), (41, .iconst 1, 1), (42, .goto 30, 3), (45, .iload_n 1, 1), (46, .bipush 111, 2), (48, .if_icmp .ne 7, 3), (51, .iconst 2, 1), (52, .goto 20, 3), (55, .iload_n 1, 1), (56, .bipush 46, 2), (58, .if_icmp .ne 12, 3), (61, .aload_n 0, 1), (62, .bipush 6, 2), (64, .invokevirtual 121, 3), (67, .goto 5, 3), (70, .bipush (-6), 2), (72, .ireturn, 1)]
set_option maxRecDepth 100000 in
theorem dk_X10_begin : dec_ok cX10_begin tb_X10_begin = true := by decide +kernel
def tb_X10_fault : List (Nat × Instr × Nat) := [(0, .aload_n 0, 1), (1, .iconst 0, 1), (2, .putfield 111, 3), (5, .iconst 0, 1), (6, .istore_n 1, 1), (7, .iconst 0, 1), (8, .istore_n 2, 1), (9, .iload_n 2, 1), (10, .aload_n 0, 1), (11, .getfield 108, 3), (14, .if_icmp .ge 62, 3), (17, .iload_n 1, 1), (18, .ifCond .ne 16, 3), (21, .aload_n 0, 1), (22, .aload_n 0, 1), (23, .getfield 31, 3), (26, .iload_n 2, 1), (27, .iaload, 1), (28, .invokevirtual 124, 3), (31, .goto 32, 3), (34, .iload_n 1, 1), (35, .iconst 1, 1), (36, .if_icmp .ne 16, 3), (39, .aload_n 0, 1), (40, .aload_n 0, 1), (41, .getfield 31, 3), (44, .iload_n 2, 1), (45, .iaload, 1), (46, .invokevirtual 127, 3), (49, .goto 14, 3), (52, .aload_n 0, 1), (53, .iload_n 1, 1), (54, .aload_n 0, 1), (55, .getfield 31, 3), (58, .iload_n 2, 1), (59, .iaload, 1), (60, .invokevirtual 130, 3), (63, .istore_n 1, 1), (64, .iload_n 1, 1), (65, .ifCond .ge 5, 3), (68, .iload_n 2, 1), (69, .ireturn, 1), (70, .iinc 2 1, 3), (73, .goto (-64), 3), (76, .iload_n 1, 1), (77, .ifCond .ne 8, 3), (80, .bipush (-6), 2), (82, .goto 7, 3), (85, .aload_n 0, 1), (86, .getfield 108, 3), (89, .ireturn, 1)]
set_option maxRecDepth 100000 in
theorem dk_X10_fault : dec_ok cX10_fault tb_X10_fault = true := by decide +kernel
def tb_X10_keepNow : List (Nat × Instr × Nat) := [(0, .iconst 0, 1), (1, .istore_n 1, 1), (2, .iload_n 1, 1), (3, .bipush 8, 2), (5, .if_icmp .ge 81, 3), (8, .aload_n 0, 1), (9, .getfield 46, 3), (12, .iload_n 1, 1), (13, .aload_n 0, 1), (14, .getfield 7, 3), (17, .iload_n 1, 1), (18, .iaload, 1), (19, .iastore, 1), (20, .aload_n 0, 1), (21, .getfield 46, 3), (24, .bipush 8, 2), (26, .iload_n 1, 1), (27, .iadd, 1), (28, .aload_n 0, 1), (29, .getfield 13, 3), (32, .iload_n 1, 1), (33, .iaload, 1), (34, .iastore, 1), (35, .aload_n 0, 1), (36, .getfield 46, 3), (39, .bipush 16, 2), (41, .iload_n 1, 1), (42, .iadd, 1), (43, .aload_n 0, 1), (44, .getfield 16, 3), (47, .iload_n 1, 1), (48, .iaload, 1), (49, .iastore, 1), (50, .aload_n 0, 1), (51, .getfield 46, 3), (54, .bipush 24, 2), (56, .iload_n 1, 1), (57, .iadd, 1), (58, .aload_n 0, 1), (59, .getfield 19, 3), (62, .iload_n 1, 1), (63, .iaload, 1), (64, .iastore, 1), (65, .aload_n 0, 1), (66, .getfield 46, 3), (69, .bipush 32, 2), (71, .iload_n 1, 1), (72, .iadd, 1), (73, .aload_n 0, 1), (74, .getfield 22, 3), (77, .iload_n 1, 1), (78, .iaload, 1), (79, .iastore, 1), (80, .iinc 1 1, 3), (83, .goto (-81), 3), (86, .aload_n 0, 1), (87, .getfield 46, 3), (90, .bipush 40, 2), (92, .aload_n 0, 1), (93, .getfield 74, 3), (96, .iastore, 1), (97, .aload_n 0, 1), (98, .getfield 46, 3), (101, .bipush 41, 2), (103, .aload_n 0, 1), (104, .getfield 143, 3), (107, .iastore, 1), (108, .aload_n 0, 1), (109, .getfield 46, 3), (112, .bipush 42, 2), (114, .aload_n 0, 1), (115, .getfield 134, 3), (118, .iastore, 1), (119, .return_, 1)]
set_option maxRecDepth 100000 in
theorem dk_X10_keepNow : dec_ok cX10_keepNow tb_X10_keepNow = true := by decide +kernel
def tb_X10_whyNot : List (Nat × Instr × Nat) := [(0, .iload_n 1, 1), (1, .tableswitch 140 0 5 #[39, 56, 71, 99, 114, 129], 39), (40, .aload_n 0, 1), (41, .getfield 13, 3), (44, .iload_n 2, 1), (45, .iaload, 1), (46, .bipush 9, 2), (48, .if_icmp .ne 7, 3), (51, .iconst 1, 1), (52, .goto 4, 3), (55, .iconst 0, 1), (56, .ireturn, 1), (57, .aload_n 0, 1), (58, .getfield 13, 3), (61, .iload_n 2, 1), (62, .iaload, 1), (63, .ifCond .ne 7, 3), (66, .iconst 1, 1), (67, .goto 4, 3), (70, .iconst 0, 1), (71, .ireturn, 1), (72, .aload_n 0, 1), (73, .getfield 16, 3), (76, .iload_n 2, 1), (77, .iaload, 1), (78, .bipush 9, 2), (80, .if_icmp .ne 7, 3), (83, .iconst 1, 1), (84, .goto 15, 3), (87, .aload_n 0, 1), (88, .getfield 74, 3), (91, .ifCond .ne 7, 3), (94, .iconst 2, 1), (95, .goto 4, 3), (98, .iconst 0, 1), (99, .ireturn, 1), (100, .aload_n 0, 1), (101, .getfield 16, 3), (104, .iload_n 2, 1), (105, .iaload, 1), (106, .ifCond .ne 7, 3), (109, .iconst 1, 1), (110, .goto 4, 3), (113, .iconst 0, 1), (114, .ireturn, 1), (115, .aload_n 0, 1), (116, .getfield 7, 3), (119, .iload_n 2, 1), (120, .iaload, 1), (121, .ifCond .ne 7, 3), (124, .iconst 3, 1), (125, .goto 4, 3), (128, .iconst 0, 1), (129, .ireturn, 1), (130, .iload_n 2, 1), (131, .iload_n 3, 1), (132, .if_icmp .ne 7, 3), (135, .iconst 4, 1), (136, .goto 4, 3), (139, .iconst 0, 1), (140, .ireturn, 1), (141, .aload_n 0, 1), (142, .getfield 134, 3), (145, .bipush 99, 2), (147, .if_icmp .ne 7, 3), (150, .iconst 5, 1), (151, .goto 4, 3), (154, .iconst 0, 1), (155, .ireturn, 1)]
set_option maxRecDepth 100000 in
theorem dk_X10_whyNot : dec_ok cX10_whyNot tb_X10_whyNot = true := by decide +kernel
def tb_X10_clear : List (Nat × Instr × Nat) := [(0, .iconst 0, 1), (1, .istore_n 1, 1), (2, .iconst 0, 1), (3, .istore_n 2, 1), (4, .iload_n 2, 1), (5, .bipush 8, 2), (7, .if_icmp .ge 28, 3), (10, .iload_n 1, 1), (11, .aload_n 0, 1), (12, .getfield 7, 3), (15, .iload_n 2, 1), (16, .iaload, 1), (17, .ifCond .ne 9, 3), (20, .iconst 1, 1), (21, .iload_n 2, 1), (22, .ishl, 1), (23, .goto 4, 3), (26, .iconst 0, 1), (27, .ior, 1), (28, .istore_n 1, 1), (29, .iinc 2 1, 3), (32, .goto (-28), 3), (35, .iload_n 1, 1), (36, .ireturn, 1)]
set_option maxRecDepth 100000 in
theorem dk_X10_clear : dec_ok cX10_clear tb_X10_clear = true := by decide +kernel
def tb_X10_less : List (Nat × Instr × Nat) := [(0, .iload_n 0, 1), (1, .iload_n 1, 1), (2, .if_icmp .ge 7, 3), (5, .iload_n 0, 1), (6, .goto 4, 3), (9, .iload_n 1, 1), (10, .ireturn, 1)]
set_option maxRecDepth 100000 in
theorem dk_X10_less : dec_ok cX10_less tb_X10_less = true := by decide +kernel
def tb_X10_has : List (Nat × Instr × Nat) := [(0, .iload_n 0, 1), (1, .iload_n 1, 1), (2, .ishr, 1), (3, .iconst 1, 1), (4, .iand, 1), (5, .iconst 1, 1), (6, .if_icmp .ne 7, 3), (9, .iconst 1, 1), (10, .goto 4, 3), (13, .iconst 0, 1), (14, .ireturn, 1)]
set_option maxRecDepth 100000 in
theorem dk_X10_has : dec_ok cX10_has tb_X10_has = true := by decide +kernel
def tb_X10_grown : List (Nat × Instr × Nat) := [(0, .bipush 99, 2), (2, .iload_n 0, 1), (3, .iload_n 0, 1), (4, .iload_n 1, 1), (5, .invokestatic 137, 3), (8, .iadd, 1), (9, .invokestatic 137, 3), (12, .ireturn, 1)]
set_option maxRecDepth 100000 in
theorem dk_X10_grown : dec_ok cX10_grown tb_X10_grown = true := by decide +kernel
def tb_X10_breed : List (Nat × Instr × Nat) := [(0, .iconst 0, 1), (1, .istore_n 1, 1), (2, .iload_n 1, 1), (3, .bipush 8, 2), (5, .if_icmp .ge 65, 3), (8, .aload_n 0, 1), (9, .getfield 7, 3), (12, .iload_n 1, 1), (13, .iaload, 1), (14, .aload_n 0, 1), (15, .getfield 13, 3), (18, .iload_n 1, 1), (19, .iaload, 1), (20, .invokestatic 140, 3), (23, .istore_n 2, 1), (24, .iload_n 2, 1), (25, .aload_n 0, 1), (26, .getfield 16, 3), (29, .iload_n 1, 1), (30, .iaload, 1), (31, .invokestatic 137, 3), (34, .istore_n 3, 1), (35, .aload_n 0, 1), (36, .getfield 7, 3), (39, .iload_n 1, 1), (40, .iload_n 2, 1), (41, .iload_n 3, 1), (42, .isub, 1), (43, .iastore, 1), (44, .aload_n 0, 1), (45, .dup, 1), (46, .getfield 143, 3), (49, .iload_n 3, 1), (50, .iadd, 1), (51, .putfield 143, 3), (54, .aload_n 0, 1), (55, .dup, 1), (56, .getfield 146, 3), (59, .iload_n 3, 1), (60, .iadd, 1), (61, .putfield 146, 3), (64, .iinc 1 1, 3), (67, .goto (-65), 3), (70, .return_, 1)]
set_option maxRecDepth 100000 in
theorem dk_X10_breed : dec_ok cX10_breed tb_X10_breed = true := by decide +kernel
def tb_X10_goal : List (Nat × Instr × Nat) := [(0, .bipush (-6), 2), (2, .istore_n 2, 1), (3, .bipush 7, 2), (5, .istore_n 3, 1), (6, .iload_n 3, 1), (7, .ifCond .lt 47, 3), (10, .aload_n 0, 1), (11, .getfield 22, 3), (14, .iload_n 1, 1), (15, .iaload, 1), (16, .iload_n 3, 1), (17, .invokestatic 149, 3), (20, .ifCond .eq 26, 3), (23, .iload_n 2, 1), (24, .ifCond .lt 18, 3), (27, .aload_n 0, 1), (28, .getfield 7, 3), (31, .iload_n 3, 1), (32, .iaload, 1), (33, .aload_n 0, 1), (34, .getfield 7, 3), (37, .iload_n 2, 1), (38, .iaload, 1), (39, .if_icmp .gt 7, 3), (42, .iload_n 3, 1), (43, .goto 4, 3), (46, .iload_n 2, 1), (47, .istore_n 2, 1), (48, .iinc 3 (-1), 3), (51, .goto (-45), 3), (54, .iload_n 2, 1), (55, .ireturn, 1)]
set_option maxRecDepth 100000 in
theorem dk_X10_goal : dec_ok cX10_goal tb_X10_goal = true := by decide +kernel
def tb_X10_go : List (Nat × Instr × Nat) := [(0, .iconst 0, 1), (1, .istore_n 1, 1), (2, .iload_n 1, 1), (3, .bipush 8, 2), (5, .if_icmp .ge 16, 3), (8, .aload_n 0, 1), (9, .getfield 43, 3), (12, .iload_n 1, 1), (13, .iconst 0, 1), (14, .iastore, 1), (15, .iinc 1 1, 3), (18, .goto (-16), 3), (21, .iconst 0, 1), (22, .istore_n 1, 1), (23, .iload_n 1, 1), (24, .bipush 8, 2), (26, .if_icmp .ge 78, 3), (29, .aload_n 0, 1), (30, .getfield 7, 3), (33, .iload_n 1, 1), (34, .iaload, 1), (35, .bipush 10, 2), (37, .if_icmp .ge 21, 3), (40, .aload_n 0, 1), (41, .getfield 19, 3), (44, .iload_n 1, 1), (45, .iaload, 1), (46, .ifCond .le 16, 3), (49, .aload_n 0, 1), (50, .getfield 7, 3), (53, .iload_n 1, 1), (54, .iaload, 1), (55, .ifCond .le 7, 3), (58, .iconst 1, 1), (59, .goto 4, 3), (62, .iconst 0, 1), (63, .istore_n 2, 1), (64, .aload_n 0, 1), (65, .iload_n 1, 1), (66, .invokevirtual 153, 3), (69, .istore_n 3, 1), (70, .iload_n 2, 1), (71, .ifCond .eq 27, 3), (74, .iload_n 3, 1), (75, .ifCond .lt 23, 3), (78, .aload_n 0, 1), (79, .getfield 43, 3), (82, .iload_n 1, 1), (83, .dup2, 1), (84, .iaload, 1), (85, .iconst 1, 1), (86, .isub, 1), (87, .iastore, 1), (88, .aload_n 0, 1), (89, .getfield 43, 3), (92, .iload_n 3, 1), (93, .dup2, 1), (94, .iaload, 1), (95, .iconst 1, 1), (96, .iadd, 1), (97, .iastore, 1), (98, .iinc 1 1, 3), (101, .goto (-78), 3), (104, .iconst 0, 1), (105, .istore_n 1, 1), (106, .iload_n 1, 1), (107, .bipush 8, 2), (109, .if_icmp .ge 60, 3), (112, .aload_n 0, 1), (113, .getfield 7, 3), (116, .iload_n 1, 1), (117, .bipush 99, 2), (119, .aload_n 0, 1), (120, .getfield 7, 3), (123, .iload_n 1, 1), (124, .iaload, 1), (125, .aload_n 0, 1), (126, .getfield 43, 3), (129, .iload_n 1, 1), (130, .iaload, 1), (131, .iadd, 1), (132, .invokestatic 137, 3), (135, .iastore, 1), (136, .aload_n 0, 1), (137, .getfield 19, 3), (140, .iload_n 1, 1), (141, .aload_n 0, 1), (142, .getfield 19, 3), (145, .iload_n 1, 1), (146, .iaload, 1), (147, .ifCond .le 14, 3), (150, .aload_n 0, 1), (151, .getfield 19, 3), (154, .iload_n 1, 1), (155, .iaload, 1), (156, .iconst 1, 1), (157, .isub, 1), (158, .goto 4, 3), (161, .iconst 0, 1), (162, .iastore, 1), (163, .iinc 1 1, 3), (166, .goto (-60), 3), (169, .return_, 1)]
set_option maxRecDepth 100000 in
theorem dk_X10_go : dec_ok cX10_go tb_X10_go = true := by decide +kernel
def tb_X10_happen : List (Nat × Instr × Nat) := [(0, .iload_n 1, 1), (1, .tableswitch 163 0 5 #[39, 52, 65, 88, 116, 136], 39), (40, .aload_n 0, 1), (41, .getfield 13, 3), (44, .iload_n 2, 1), (45, .dup2, 1), (46, .iaload, 1), (47, .iconst 1, 1), (48, .iadd, 1), (49, .iastore, 1), (50, .goto 132, 3), (53, .aload_n 0, 1), (54, .getfield 13, 3), (57, .iload_n 2, 1), (58, .dup2, 1), (59, .iaload, 1), (60, .iconst 1, 1), (61, .isub, 1), (62, .iastore, 1), (63, .goto 119, 3), (66, .aload_n 0, 1), (67, .getfield 16, 3), (70, .iload_n 2, 1), (71, .dup2, 1), (72, .iaload, 1), (73, .iconst 1, 1), (74, .iadd, 1), (75, .iastore, 1), (76, .aload_n 0, 1), (77, .dup, 1), (78, .getfield 74, 3), (81, .iconst 1, 1), (82, .isub, 1), (83, .putfield 74, 3), (86, .goto 96, 3), (89, .aload_n 0, 1), (90, .getfield 16, 3), (93, .iload_n 2, 1), (94, .dup2, 1), (95, .iaload, 1), (96, .iconst 1, 1), (97, .isub, 1), (98, .iastore, 1), (99, .aload_n 0, 1), (100, .bipush 99, 2), (102, .aload_n 0, 1), (103, .getfield 74, 3), (106, .iconst 1, 1), (107, .iadd, 1), (108, .invokestatic 137, 3), (111, .putfield 74, 3), (114, .goto 68, 3), (117, .aload_n 0, 1), (118, .getfield 7, 3), (121, .iload_n 2, 1), (122, .dup2, 1), (123, .iaload, 1), (124, .iconst 2, 1), (125, .idiv, 1), (126, .iastore, 1), (127, .aload_n 0, 1), (128, .getfield 19, 3), (131, .iload_n 2, 1), (132, .iconst 3, 1), (133, .iastore, 1), (134, .goto 48, 3), (137, .aload_n 0, 1), (138, .iload_n 2, 1), (139, .iload_n 3, 1), (140, .aload_n 0, 1), (141, .getfield 22, 3), (144, .iload_n 2, 1), (145, .iaload, 1), (146, .iload_n 3, 1), (147, .invokestatic 149, 3), (150, .ifCond .ne 7, 3), (153, .iconst 1, 1), (154, .goto 4, 3), (157, .iconst 0, 1), (158, .invokevirtual 96, 3), (161, .goto 21, 3), (164, .aload_n 0, 1), (165, .invokevirtual 156, 3), (168, .aload_n 0, 1), (169, .invokevirtual 159, 3), (172, .aload_n 0, 1), (173, .dup, 1), (174, .getfield 134, 3), (177, .iconst 1, 1), (178, .iadd, 1), (179, .putfield 134, 3), (182, .return_, 1)]
set_option maxRecDepth 100000 in
theorem dk_X10_happen : dec_ok cX10_happen tb_X10_happen = true := by decide +kernel
def tb_X10_leastOf : List (Nat × Instr × Nat) := [(0, .bipush (-6), 2), (2, .istore_n 1, 1), (3, .bipush 7, 2), (5, .istore_n 2, 1), (6, .iload_n 2, 1), (7, .ifCond .lt 23, 3), (10, .iload_n 0, 1), (11, .iload_n 2, 1), (12, .invokestatic 149, 3), (15, .ifCond .eq 7, 3), (18, .iload_n 2, 1), (19, .goto 4, 3), (22, .iload_n 1, 1), (23, .istore_n 1, 1), (24, .iinc 2 (-1), 3), (27, .goto (-21), 3), (30, .iload_n 1, 1), (31, .ireturn, 1)]
set_option maxRecDepth 100000 in
theorem dk_X10_leastOf : dec_ok cX10_leastOf tb_X10_leastOf = true := by decide +kernel
def tb_X10_goOne : List (Nat × Instr × Nat) := [(0, .aload_n 0, 1), (1, .invokevirtual 162, 3), (4, .istore_n 2, 1), (5, .aload_n 0, 1), (6, .aload_n 0, 1), (7, .getfield 34, 3), (10, .iload_n 1, 1), (11, .iaload, 1), (12, .aload_n 0, 1), (13, .getfield 37, 3), (16, .iload_n 1, 1), (17, .iaload, 1), (18, .aload_n 0, 1), (19, .getfield 40, 3), (22, .iload_n 1, 1), (23, .iaload, 1), (24, .invokevirtual 166, 3), (27, .aload_n 0, 1), (28, .invokevirtual 162, 3), (31, .iload_n 2, 1), (32, .iconst (-1), 1), (33, .ixor, 1), (34, .iand, 1), (35, .istore_n 3, 1), (36, .iload_n 3, 1), (37, .ifCond .eq 23, 3), (40, .aload_n 0, 1), (41, .getfield 170, 3), (44, .ifCond .ge 16, 3), (47, .aload_n 0, 1), (48, .iload_n 1, 1), (49, .putfield 170, 3), (52, .aload_n 0, 1), (53, .iload_n 3, 1), (54, .invokestatic 173, 3), (57, .putfield 176, 3), (60, .return_, 1)]
set_option maxRecDepth 100000 in
theorem dk_X10_goOne : dec_ok cX10_goOne tb_X10_goOne = true := by decide +kernel
def tb_X10_goWeeks : List (Nat × Instr × Nat) := [(0, .aload_n 0, 1), (1, .bipush (-6), 2), (3, .putfield 179, 3), (6, .aload_n 0, 1), (7, .bipush (-6), 2), (9, .putfield 182, 3), (12, .aload_n 0, 1), (13, .bipush (-6), 2), (15, .putfield 170, 3), (18, .aload_n 0, 1), (19, .bipush (-6), 2), (21, .putfield 176, 3), (24, .aload_n 0, 1), (25, .iconst 0, 1), (26, .putfield 146, 3), (29, .iconst 0, 1), (30, .istore_n 1, 1), (31, .iload_n 1, 1), (32, .aload_n 0, 1), (33, .getfield 111, 3), (36, .if_icmp .ge 76, 3), (39, .aload_n 0, 1), (40, .getfield 179, 3), (43, .ifCond .ge 69, 3), (46, .aload_n 0, 1), (47, .aload_n 0, 1), (48, .getfield 34, 3), (51, .iload_n 1, 1), (52, .iaload, 1), (53, .aload_n 0, 1), (54, .getfield 37, 3), (57, .iload_n 1, 1), (58, .iaload, 1), (59, .aload_n 0, 1), (60, .getfield 40, 3), (63, .iload_n 1, 1), (64, .iaload, 1), (65, .invokevirtual 185, 3), (68, .istore_n 2, 1), (69, .aload_n 0, 1), (70, .iload_n 2, 1), (71, .ifCond .le 7, 3), (74, .iload_n 1, 1), (75, .goto 5, 3), (78, .bipush (-6), 2), (80, .putfield 179, 3), (83, .aload_n 0, 1), (84, .iload_n 2, 1), (85, .ifCond .le 7, 3), (88, .iload_n 2, 1), (89, .goto 5, 3), (92, .bipush (-6), 2), (94, .putfield 182, 3), (97, .iload_n 2, 1), (98, .ifCond .ne 8, 3), (101, .aload_n 0, 1), (102, .iload_n 1, 1), (103, .invokevirtual 189, 3), (106, .iinc 1 1, 3), (109, .goto (-78), 3), (112, .return_, 1)]
set_option maxRecDepth 100000 in
theorem dk_X10_goWeeks : dec_ok cX10_goWeeks tb_X10_goWeeks = true := by decide +kernel
def tb_X10_refusal : List (Nat × Instr × Nat) := [(0, .aload_n 0, 1), (1, .invokevirtual 193, 3), (4, .aload_n 0, 1), (5, .invokevirtual 196, 3), (8, .ifCond .lt 6, 3), (11, .bipush (-5), 2), (13, .ireturn, 1), (14, .aload_n 0, 1), (15, .invokevirtual 199, 3), (18, .aload_n 0, 1), (19, .getfield 179, 3), (22, .ifCond .lt 8, 3), (25, .bipush (-3), 2), (27, .goto 5, 3), (30, .bipush (-6), 2), (32, .ireturn, 1)]
set_option maxRecDepth 100000 in
theorem dk_X10_refusal : dec_ok cX10_refusal tb_X10_refusal = true := by decide +kernel
def tb_X10_back : List (Nat × Instr × Nat) := [(0, .iconst 0, 1), (1, .istore_n 2, 1), (2, .iload_n 2, 1), (3, .bipush 8, 2), (5, .if_icmp .ge 81, 3), (8, .aload_n 0, 1), (9, .getfield 7, 3), (12, .iload_n 2, 1), (13, .aload_n 0, 1), (14, .getfield 46, 3), (17, .iload_n 2, 1), (18, .iaload, 1), (19, .iastore, 1), (20, .aload_n 0, 1), (21, .getfield 13, 3), (24, .iload_n 2, 1), (25, .aload_n 0, 1), (26, .getfield 46, 3), (29, .bipush 8, 2), (31, .iload_n 2, 1), (32, .iadd, 1), (33, .iaload, 1), (34, .iastore, 1), (35, .aload_n 0, 1), (36, .getfield 16, 3), (39, .iload_n 2, 1), (40, .aload_n 0, 1), (41, .getfield 46, 3), (44, .bipush 16, 2), (46, .iload_n 2, 1), (47, .iadd, 1), (48, .iaload, 1), (49, .iastore, 1), (50, .aload_n 0, 1), (51, .getfield 19, 3), (54, .iload_n 2, 1), (55, .aload_n 0, 1), (56, .getfield 46, 3), (59, .bipush 24, 2), (61, .iload_n 2, 1), (62, .iadd, 1), (63, .iaload, 1), (64, .iastore, 1), (65, .aload_n 0, 1), (66, .getfield 22, 3), (69, .iload_n 2, 1), (70, .aload_n 0, 1), (71, .getfield 46, 3), (74, .bipush 32, 2), (76, .iload_n 2, 1), (77, .iadd, 1), (78, .iaload, 1), (79, .iastore, 1), (80, .iinc 2 1, 3), (83, .goto (-81), 3), (86, .aload_n 0, 1), (87, .aload_n 0, 1), (88, .getfield 46, 3), (91, .bipush 40, 2), (93, .iaload, 1), (94, .putfield 74, 3), (97, .aload_n 0, 1), (98, .aload_n 0, 1), (99, .getfield 46, 3), (102, .bipush 41, 2), (104, .iaload, 1), (105, .putfield 143, 3), (108, .aload_n 0, 1), (109, .aload_n 0, 1), (110, .getfield 46, 3), (113, .bipush 42, 2), (115, .iaload, 1), (116, .putfield 134, 3), (119, .iload_n 1, 1), (120, .ireturn, 1)]
set_option maxRecDepth 100000 in
theorem dk_X10_back : dec_ok cX10_back tb_X10_back = true := by decide +kernel
def tb_X10_judge : List (Nat × Instr × Nat) := [(0, .iload_n 1, 1), (1, .i2l, 1), (2, .lconst 0, 1), (3, .ldc2_w 202, 3), (6, .invokestatic 80, 3), (9, .ifCond .ne 6, 3), (12, .bipush (-2), 2), (14, .ireturn, 1), (15, .aload_n 0, 1), (16, .aload_n 0, 1), (17, .invokevirtual 204, 3), (20, .invokevirtual 207, 3), (23, .istore_n 2, 1), (24, .iload_n 2, 1), (25, .bipush (-5), 2), (27, .if_icmp .eq 14, 3), (30, .iload_n 1, 1), (31, .iconst 1, 1), (32, .if_icmp .le 11, 3), (35, .iload_n 2, 1), (36, .bipush (-3), 2), (38, .if_icmp .ne 5, 3), (41, .iload_n 2, 1), (42, .ireturn, 1), (43, .iload_n 1, 1), (44, .ifCond .ne 10, 3), (47, .aload_n 0, 1), (48, .getfield 179, 3), (51, .goto 19, 3), (54, .iload_n 1, 1), (55, .iconst 1, 1), (56, .if_icmp .ne 10, 3), (59, .aload_n 0, 1), (60, .getfield 182, 3), (63, .goto 7, 3), (66, .aload_n 0, 1), (67, .getfield 146, 3), (70, .ireturn, 1)]
set_option maxRecDepth 100000 in
theorem dk_X10_judge : dec_ok cX10_judge tb_X10_judge = true := by decide +kernel
def tb_X10_ofHouse : List (Nat × Instr × Nat) := [(0, .iload_n 2, 1), (1, .ifCond .ne 12, 3), (4, .aload_n 0, 1), (5, .getfield 7, 3), (8, .iload_n 1, 1), (9, .iaload, 1), (10, .goto 37, 3), (13, .iload_n 2, 1), (14, .iconst 1, 1), (15, .if_icmp .ne 12, 3), (18, .aload_n 0, 1), (19, .getfield 13, 3), (22, .iload_n 1, 1), (23, .iaload, 1), (24, .goto 23, 3), (27, .iload_n 2, 1), (28, .iconst 2, 1), (29, .if_icmp .ne 12, 3), (32, .aload_n 0, 1), (33, .getfield 16, 3), (36, .iload_n 1, 1), (37, .iaload, 1), (38, .goto 9, 3), (41, .aload_n 0, 1), (42, .getfield 19, 3), (45, .iload_n 1, 1), (46, .iaload, 1), (47, .ireturn, 1)]
set_option maxRecDepth 100000 in
theorem dk_X10_ofHouse : dec_ok cX10_ofHouse tb_X10_ofHouse = true := by decide +kernel
def tb_X10_behind : List (Nat × Instr × Nat) := [(0, .iload_n 1, 1), (1, .invokestatic 84, 3), (4, .ifCond .ne 5, 3), (7, .iconst (-1), 1), (8, .ireturn, 1), (9, .iload_n 2, 1), (10, .i2l, 1), (11, .lconst 0, 1), (12, .ldc2_w 210, 3), (15, .invokestatic 80, 3), (18, .ifCond .ne 6, 3), (21, .bipush (-2), 2), (23, .ireturn, 1), (24, .aload_n 0, 1), (25, .invokevirtual 204, 3), (28, .istore_n 3, 1), (29, .aload_n 0, 1), (30, .iload_n 3, 1), (31, .bipush (-6), 2), (33, .if_icmp .eq 7, 3), (36, .iload_n 3, 1), (37, .goto 9, 3), (40, .aload_n 0, 1), (41, .iload_n 1, 1), (42, .iload_n 2, 1), (43, .invokevirtual 212, 3), (46, .invokevirtual 207, 3), (49, .ireturn, 1)]
set_option maxRecDepth 100000 in
theorem dk_X10_behind : dec_ok cX10_behind tb_X10_behind = true := by decide +kernel
def tb_X10_allDoubts : List (Nat × Instr × Nat) := [(0, .iconst 0, 1), (1, .istore_n 1, 1), (2, .iconst 0, 1), (3, .istore_n 2, 1), (4, .iload_n 2, 1), (5, .bipush 8, 2), (7, .if_icmp .ge 18, 3), (10, .iload_n 1, 1), (11, .aload_n 0, 1), (12, .getfield 7, 3), (15, .iload_n 2, 1), (16, .iaload, 1), (17, .iadd, 1), (18, .istore_n 1, 1), (19, .iinc 2 1, 3), (22, .goto (-18), 3), (25, .iload_n 1, 1), (26, .ireturn, 1)]
set_option maxRecDepth 100000 in
theorem dk_X10_allDoubts : dec_ok cX10_allDoubts tb_X10_allDoubts = true := by decide +kernel
def tb_X10_ofTown : List (Nat × Instr × Nat) := [(0, .iload_n 1, 1), (1, .tableswitch 51 0 3 #[31, 36, 41, 46], 31), (32, .aload_n 0, 1), (33, .invokevirtual 215, 3), (36, .ireturn, 1), (37, .aload_n 0, 1), (38, .getfield 74, 3), (41, .ireturn, 1), (42, .aload_n 0, 1), (43, .getfield 143, 3), (46, .ireturn, 1), (47, .aload_n 0, 1), (48, .getfield 134, 3), (51, .ireturn, 1), (52, .aload_n 0, 1), (53, .invokevirtual 162, 3), (56, .ireturn, 1)]
set_option maxRecDepth 100000 in
theorem dk_X10_ofTown : dec_ok cX10_ofTown tb_X10_ofTown = true := by decide +kernel
def tb_X10_town : List (Nat × Instr × Nat) := [(0, .iload_n 1, 1), (1, .i2l, 1), (2, .lconst 0, 1), (3, .ldc2_w 218, 3), (6, .invokestatic 80, 3), (9, .ifCond .ne 6, 3), (12, .bipush (-2), 2), (14, .ireturn, 1), (15, .aload_n 0, 1), (16, .invokevirtual 204, 3), (19, .istore_n 2, 1), (20, .aload_n 0, 1), (21, .iload_n 2, 1), (22, .bipush (-6), 2), (24, .if_icmp .eq 7, 3), (27, .iload_n 2, 1), (28, .goto 8, 3), (31, .aload_n 0, 1), (32, .iload_n 1, 1), (33, .invokevirtual 220, 3), (36, .invokevirtual 207, 3), (39, .ireturn, 1)]
set_option maxRecDepth 100000 in
theorem dk_X10_town : dec_ok cX10_town tb_X10_town = true := by decide +kernel
def tb_X10_rid : List (Nat × Instr × Nat) := [(0, .iload_n 1, 1), (1, .i2l, 1), (2, .lconst 0, 1), (3, .lconst 1, 1), (4, .invokestatic 80, 3), (7, .ifCond .ne 6, 3), (10, .bipush (-2), 2), (12, .ireturn, 1), (13, .aload_n 0, 1), (14, .aload_n 0, 1), (15, .invokevirtual 204, 3), (18, .invokevirtual 207, 3), (21, .istore_n 2, 1), (22, .iload_n 2, 1), (23, .bipush (-6), 2), (25, .if_icmp .eq 7, 3), (28, .iload_n 2, 1), (29, .goto 18, 3), (32, .iload_n 1, 1), (33, .ifCond .ne 10, 3), (36, .aload_n 0, 1), (37, .getfield 170, 3), (40, .goto 7, 3), (43, .aload_n 0, 1), (44, .getfield 176, 3), (47, .ireturn, 1)]
set_option maxRecDepth 100000 in
theorem dk_X10_rid : dec_ok cX10_rid tb_X10_rid = true := by decide +kernel
def tb_X10_done : List (Nat × Instr × Nat) := [(0, .aload_n 0, 1), (1, .invokevirtual 204, 3), (4, .istore_n 1, 1), (5, .iload_n 1, 1), (6, .bipush (-6), 2), (8, .if_icmp .eq 9, 3), (11, .aload_n 0, 1), (12, .iload_n 1, 1), (13, .invokevirtual 207, 3), (16, .ireturn, 1), (17, .aload_n 0, 1), (18, .iconst 0, 1), (19, .putfield 108, 3), (22, .aload_n 0, 1), (23, .getfield 111, 3), (26, .ireturn, 1)]
set_option maxRecDepth 100000 in
theorem dk_X10_done : dec_ok cX10_done tb_X10_done = true := by decide +kernel
def tb_X10_alone : List (Nat × Instr × Nat) := [(0, .iload_n 1, 1), (1, .i2l, 1), (2, .lconst 0, 1), (3, .ldc2_w 88, 3), (6, .invokestatic 80, 3), (9, .ifCond .eq 38, 3), (12, .iload_n 2, 1), (13, .i2l, 1), (14, .lconst 0, 1), (15, .ldc2_w 90, 3), (18, .invokestatic 80, 3), (21, .ifCond .eq 26, 3), (24, .iload_n 3, 1), (25, .i2l, 1), (26, .lconst 0, 1), (27, .ldc2_w 90, 3), (30, .invokestatic 80, 3), (33, .ifCond .eq 14, 3), (36, .iload 4, 2), (38, .i2l, 1), (39, .lconst 0, 1), (40, .lconst 1, 1), (41, .invokestatic 80, 3), (44, .ifCond .ne 6, 3), (47, .bipush (-2), 2), (49, .ireturn, 1), (50, .iload 4, 2), (52, .ifCond .ne 7, 3), (55, .iconst 0, 1), (56, .goto 5, 3), (59, .bipush 99, 2), (61, .istore 5, 2), (63, .iload_n 1, 1), (64, .istore 6, 2), (66, .iconst 0, 1), (67, .istore 7, 2), (69, .iload 7, 2), (71, .sipush 200, 3), (74, .if_icmp .ge 38, 3), (77, .iload 6, 2), (79, .iload 5, 2), (81, .if_icmp .ne 6, 3), (84, .iload 7, 2), (86, .ireturn, 1), (87, .iload 6, 2), (89, .iload_n 2, 1), (90, .invokestatic 140, 3), (93, .istore 8, 2), (95, .iload 8, 2), (97, .iload 8, 2), (99, .iload_n 3, 1), (100, .invokestatic 137, 3), (103, .isub, 1), (104, .istore 6, 2), (106, .iinc 7 1, 3), (109, .goto (-40), 3), (112, .bipush (-6), 2), (114, .ireturn, 1)]
set_option maxRecDepth 100000 in
theorem dk_X10_alone : dec_ok cX10_alone tb_X10_alone = true := by decide +kernel
def tb_X10_isWatched : List (Nat × Instr × Nat) := [(0, .iconst 1, 1), (1, .istore_n 2, 1), (2, .iconst 0, 1), (3, .istore_n 3, 1), (4, .iload_n 3, 1), (5, .bipush 8, 2), (7, .if_icmp .ge 40, 3), (10, .iload_n 2, 1), (11, .ifCond .eq 28, 3), (14, .iload_n 1, 1), (15, .iload_n 3, 1), (16, .invokestatic 149, 3), (19, .ifCond .ne 16, 3), (22, .aload_n 0, 1), (23, .getfield 22, 3), (26, .iload_n 3, 1), (27, .iaload, 1), (28, .iload_n 1, 1), (29, .iconst (-1), 1), (30, .ixor, 1), (31, .iand, 1), (32, .ifCond .ne 7, 3), (35, .iconst 1, 1), (36, .goto 4, 3), (39, .iconst 0, 1), (40, .istore_n 2, 1), (41, .iinc 3 1, 3), (44, .goto (-40), 3), (47, .iload_n 2, 1), (48, .ireturn, 1)]
set_option maxRecDepth 100000 in
theorem dk_X10_isWatched : dec_ok cX10_isWatched tb_X10_isWatched = true := by decide +kernel
def tb_X10_terriers : List (Nat × Instr × Nat) := [(0, .iload_n 1, 1), (1, .i2l, 1), (2, .lconst 0, 1), (3, .lconst 1, 1), (4, .invokestatic 80, 3), (7, .ifCond .ne 6, 3), (10, .bipush (-2), 2), (12, .ireturn, 1), (13, .sipush 255, 3), (16, .istore_n 2, 1), (17, .sipush 254, 3), (20, .istore_n 3, 1), (21, .iload_n 3, 1), (22, .ifCond .lt 34, 3), (25, .iload_n 3, 1), (26, .invokestatic 100, 3), (29, .iload_n 2, 1), (30, .invokestatic 100, 3), (33, .if_icmp .gt 15, 3), (36, .aload_n 0, 1), (37, .iload_n 3, 1), (38, .invokevirtual 223, 3), (41, .ifCond .eq 7, 3), (44, .iload_n 3, 1), (45, .goto 4, 3), (48, .iload_n 2, 1), (49, .istore_n 2, 1), (50, .iinc 3 (-1), 3), (53, .goto (-32), 3), (56, .iload_n 1, 1), (57, .ifCond .ne 10, 3), (60, .iload_n 2, 1), (61, .invokestatic 100, 3), (64, .goto 4, 3), (67, .iload_n 2, 1), (68, .ireturn, 1)]
set_option maxRecDepth 100000 in
theorem dk_X10_terriers : dec_ok cX10_terriers tb_X10_terriers = true := by decide +kernel
def tb_X10_isRow : List (Nat × Instr × Nat) := [(0, .iload_n 0, 1), (1, .istore_n 2, 1), (2, .iconst 0, 1), (3, .istore_n 3, 1), (4, .iload_n 3, 1), (5, .iload_n 1, 1), (6, .if_icmp .ge 14, 3), (9, .iload_n 2, 1), (10, .bipush 10, 2), (12, .idiv, 1), (13, .istore_n 2, 1), (14, .iinc 3 1, 3), (17, .goto (-13), 3), (20, .iload_n 0, 1), (21, .ifCond .lt 11, 3), (24, .iload_n 2, 1), (25, .ifCond .ne 7, 3), (28, .iconst 1, 1), (29, .goto 4, 3), (32, .iconst 0, 1), (33, .ireturn, 1)]
set_option maxRecDepth 100000 in
theorem dk_X10_isRow : dec_ok cX10_isRow tb_X10_isRow = true := by decide +kernel
def tb_X10_inOne : List (Nat × Instr × Nat) := [(0, .iload_n 1, 1), (1, .istore 4, 2), (3, .iload_n 1, 1), (4, .iconst 1, 1), (5, .isub, 1), (6, .istore 5, 2), (8, .iload 5, 2), (10, .iload_n 2, 1), (11, .if_icmp .lt 29, 3), (14, .aload_n 0, 1), (15, .getfield 49, 3), (18, .iload 5, 2), (20, .iaload, 1), (21, .iload_n 3, 1), (22, .if_icmp .ne 8, 3), (25, .iload 5, 2), (27, .goto 5, 3), (30, .iload 4, 2), (32, .istore 4, 2), (34, .iinc 5 (-1), 3), (37, .goto (-29), 3), (40, .iload 4, 2), (42, .ireturn, 1)]
set_option maxRecDepth 100000 in
theorem dk_X10_inOne : dec_ok cX10_inOne tb_X10_inOne = true := by decide +kernel
def tb_X10_inTwo : List (Nat × Instr × Nat) := [(0, .iload_n 1, 1), (1, .istore 4, 2), (3, .iload_n 1, 1), (4, .iconst 1, 1), (5, .isub, 1), (6, .istore 5, 2), (8, .iload 5, 2), (10, .iload_n 2, 1), (11, .if_icmp .lt 29, 3), (14, .aload_n 0, 1), (15, .getfield 52, 3), (18, .iload 5, 2), (20, .iaload, 1), (21, .iload_n 3, 1), (22, .if_icmp .ne 8, 3), (25, .iload 5, 2), (27, .goto 5, 3), (30, .iload 4, 2), (32, .istore 4, 2), (34, .iinc 5 (-1), 3), (37, .goto (-29), 3), (40, .iload 4, 2), (42, .ireturn, 1)]
set_option maxRecDepth 100000 in
theorem dk_X10_inTwo : dec_ok cX10_inTwo tb_X10_inTwo = true := by decide +kernel
def tb_X10_leastRow : List (Nat × Instr × Nat) := [(0, .iconst 0, 1), (1, .istore_n 2, 1), (2, .iconst 0, 1), (3, .istore_n 3, 1), (4, .iconst 0, 1), (5, .istore 4, 2), (7, .aload_n 0, 1), (8, .getfield 55, 3), (11, .iconst 0, 1), (12, .iaload, 1), (13, .istore 5, 2), (15, .iload 5, 2), (17, .ifCond .le 138, 3), (20, .bipush (-6), 2), (22, .istore 6, 2), (24, .bipush 9, 2), (26, .istore 7, 2), (28, .iload 7, 2), (30, .ifCond .lt 87, 3), (33, .aload_n 0, 1), (34, .iload_n 1, 1), (35, .iload_n 3, 1), (36, .iload 7, 2), (38, .invokevirtual 226, 3), (41, .istore 8, 2), (43, .aload_n 0, 1), (44, .iload_n 1, 1), (45, .iload 4, 2), (47, .iload 7, 2), (49, .invokevirtual 229, 3), (52, .istore 9, 2), (54, .iload 8, 2), (56, .iload_n 1, 1), (57, .if_icmp .ge 37, 3), (60, .iload 9, 2), (62, .iload_n 1, 1), (63, .if_icmp .ge 31, 3), (66, .aload_n 0, 1), (67, .getfield 55, 3), (70, .bipush 10, 2), (72, .iload 8, 2), (74, .iconst 1, 1), (75, .iadd, 1), (76, .imul, 1), (77, .iload 9, 2), (79, .iadd, 1), (80, .iconst 1, 1), (81, .iadd, 1), (82, .iaload, 1), (83, .iload 5, 2), (85, .iconst 1, 1), (86, .isub, 1), (87, .if_icmp .ne 7, 3), (90, .iconst 1, 1), (91, .goto 4, 3), (94, .iconst 0, 1), (95, .istore 10, 2), (97, .iload 10, 2), (99, .ifCond .eq 8, 3), (102, .iload 7, 2), (104, .goto 5, 3), (107, .iload 6, 2), (109, .istore 6, 2), (111, .iinc 7 (-1), 3), (114, .goto (-86), 3), (117, .bipush 10, 2), (119, .iload_n 2, 1), (120, .imul, 1), (121, .iload 6, 2), (123, .iadd, 1), (124, .istore_n 2, 1), (125, .aload_n 0, 1), (126, .iload_n 1, 1), (127, .iload_n 3, 1), (128, .iload 6, 2), (130, .invokevirtual 226, 3), (133, .iconst 1, 1), (134, .iadd, 1), (135, .istore_n 3, 1), (136, .aload_n 0, 1), (137, .iload_n 1, 1), (138, .iload 4, 2), (140, .iload 6, 2), (142, .invokevirtual 229, 3), (145, .iconst 1, 1), (146, .iadd, 1), (147, .istore 4, 2), (149, .iinc 5 (-1), 3), (152, .goto (-137), 3), (155, .iload_n 2, 1), (156, .ireturn, 1)]
set_option maxRecDepth 100000 in
theorem dk_X10_leastRow : dec_ok cX10_leastRow tb_X10_leastRow = true := by decide +kernel
def tb_X10_lengthFrom : List (Nat × Instr × Nat) := [(0, .iload_n 2, 1), (1, .iload_n 1, 1), (2, .if_icmp .eq 8, 3), (5, .iload_n 3, 1), (6, .iload_n 1, 1), (7, .if_icmp .ne 5, 3), (10, .iconst 0, 1), (11, .ireturn, 1), (12, .aload_n 0, 1), (13, .getfield 55, 3), (16, .bipush 10, 2), (18, .iload_n 2, 1), (19, .iconst 1, 1), (20, .iadd, 1), (21, .imul, 1), (22, .iload_n 3, 1), (23, .iadd, 1), (24, .iaload, 1), (25, .istore 4, 2), (27, .aload_n 0, 1), (28, .getfield 55, 3), (31, .bipush 10, 2), (33, .iload_n 2, 1), (34, .imul, 1), (35, .iload_n 3, 1), (36, .iadd, 1), (37, .iconst 1, 1), (38, .iadd, 1), (39, .iaload, 1), (40, .istore 5, 2), (42, .iload 4, 2), (44, .iload 5, 2), (46, .if_icmp .le 8, 3), (49, .iload 4, 2), (51, .goto 5, 3), (54, .iload 5, 2), (56, .istore 6, 2), (58, .aload_n 0, 1), (59, .getfield 49, 3), (62, .iload_n 2, 1), (63, .iaload, 1), (64, .aload_n 0, 1), (65, .getfield 52, 3), (68, .iload_n 3, 1), (69, .iaload, 1), (70, .if_icmp .ne 23, 3), (73, .iconst 1, 1), (74, .aload_n 0, 1), (75, .getfield 55, 3), (78, .bipush 10, 2), (80, .iload_n 2, 1), (81, .iconst 1, 1), (82, .iadd, 1), (83, .imul, 1), (84, .iload_n 3, 1), (85, .iadd, 1), (86, .iconst 1, 1), (87, .iadd, 1), (88, .iaload, 1), (89, .iadd, 1), (90, .goto 4, 3), (93, .iconst 0, 1), (94, .istore 7, 2), (96, .iload 7, 2), (98, .iload 6, 2), (100, .if_icmp .le 8, 3), (103, .iload 7, 2), (105, .goto 5, 3), (108, .iload 6, 2), (110, .ireturn, 1)]
set_option maxRecDepth 100000 in
theorem dk_X10_lengthFrom : dec_ok cX10_lengthFrom tb_X10_lengthFrom = true := by decide +kernel
def tb_X10_digit : List (Nat × Instr × Nat) := [(0, .iload_n 0, 1), (1, .istore_n 3, 1), (2, .iload_n 1, 1), (3, .iconst 1, 1), (4, .isub, 1), (5, .istore 4, 2), (7, .iload 4, 2), (9, .iload_n 2, 1), (10, .if_icmp .le 14, 3), (13, .iload_n 3, 1), (14, .bipush 10, 2), (16, .idiv, 1), (17, .istore_n 3, 1), (18, .iinc 4 (-1), 3), (21, .goto (-14), 3), (24, .iload_n 3, 1), (25, .bipush 10, 2), (27, .irem, 1), (28, .ireturn, 1)]
set_option maxRecDepth 100000 in
theorem dk_X10_digit : dec_ok cX10_digit tb_X10_digit = true := by decide +kernel
def tb_X10_heard : List (Nat × Instr × Nat) := [(0, .iload_n 3, 1), (1, .i2l, 1), (2, .lconst 1, 1), (3, .ldc2_w 90, 3), (6, .invokestatic 80, 3), (9, .ifCond .eq 30, 3), (12, .iload_n 1, 1), (13, .iload_n 3, 1), (14, .invokestatic 232, 3), (17, .ifCond .eq 22, 3), (20, .iload_n 2, 1), (21, .iload_n 3, 1), (22, .invokestatic 232, 3), (25, .ifCond .eq 14, 3), (28, .iload 4, 2), (30, .i2l, 1), (31, .lconst 0, 1), (32, .lconst 1, 1), (33, .invokestatic 80, 3), (36, .ifCond .ne 6, 3), (39, .bipush (-2), 2), (41, .ireturn, 1), (42, .iconst 0, 1), (43, .istore 5, 2), (45, .iload 5, 2), (47, .iload_n 3, 1), (48, .if_icmp .ge 37, 3), (51, .aload_n 0, 1), (52, .getfield 49, 3), (55, .iload 5, 2), (57, .iload_n 1, 1), (58, .iload_n 3, 1), (59, .iload 5, 2), (61, .invokestatic 235, 3), (64, .iastore, 1), (65, .aload_n 0, 1), (66, .getfield 52, 3), (69, .iload 5, 2), (71, .iload_n 2, 1), (72, .iload_n 3, 1), (73, .iload 5, 2), (75, .invokestatic 235, 3), (78, .iastore, 1), (79, .iinc 5 1, 3), (82, .goto (-37), 3), (85, .iload_n 3, 1), (86, .istore 5, 2), (88, .iload 5, 2), (90, .ifCond .lt 45, 3), (93, .iload_n 3, 1), (94, .istore 6, 2), (96, .iload 6, 2), (98, .ifCond .lt 31, 3), (101, .aload_n 0, 1), (102, .getfield 55, 3), (105, .bipush 10, 2), (107, .iload 5, 2), (109, .imul, 1), (110, .iload 6, 2), (112, .iadd, 1), (113, .aload_n 0, 1), (114, .iload_n 3, 1), (115, .iload 5, 2), (117, .iload 6, 2), (119, .invokevirtual 238, 3), (122, .iastore, 1), (123, .iinc 6 (-1), 3), (126, .goto (-30), 3), (129, .iinc 5 (-1), 3), (132, .goto (-44), 3), (135, .iload 4, 2), (137, .ifCond .ne 12, 3), (140, .aload_n 0, 1), (141, .getfield 55, 3), (144, .iconst 0, 1), (145, .iaload, 1), (146, .goto 8, 3), (149, .aload_n 0, 1), (150, .iload_n 3, 1), (151, .invokevirtual 241, 3), (154, .ireturn, 1)]
set_option maxRecDepth 100000 in
theorem dk_X10_heard : dec_ok cX10_heard tb_X10_heard = true := by decide +kernel
def tb_X10_gnawed : List (Nat × Instr × Nat) := [(0, .iload_n 1, 1), (1, .i2l, 1), (2, .lconst 0, 1), (3, .ldc2_w 244, 3), (6, .invokestatic 80, 3), (9, .ifCond .eq 15, 3), (12, .iload_n 2, 1), (13, .i2l, 1), (14, .lconst 0, 1), (15, .ldc2_w 88, 3), (18, .invokestatic 80, 3), (21, .ifCond .ne 6, 3), (24, .bipush (-2), 2), (26, .ireturn, 1), (27, .aload_n 0, 1), (28, .getfield 246, 3), (31, .bipush 8, 2), (33, .if_icmp .ne 6, 3), (36, .bipush (-4), 2), (38, .ireturn, 1), (39, .aload_n 0, 1), (40, .getfield 25, 3), (43, .aload_n 0, 1), (44, .getfield 246, 3), (47, .iload_n 1, 1), (48, .iastore, 1), (49, .aload_n 0, 1), (50, .getfield 28, 3), (53, .aload_n 0, 1), (54, .getfield 246, 3), (57, .iload_n 2, 1), (58, .iastore, 1), (59, .aload_n 0, 1), (60, .dup, 1), (61, .getfield 246, 3), (64, .iconst 1, 1), (65, .iadd, 1), (66, .putfield 246, 3), (69, .aload_n 0, 1), (70, .getfield 246, 3), (73, .ireturn, 1)]
set_option maxRecDepth 100000 in
theorem dk_X10_gnawed : dec_ok cX10_gnawed tb_X10_gnawed = true := by decide +kernel
def tb_X10_forget : List (Nat × Instr × Nat) := [(0, .aload_n 0, 1), (1, .getfield 246, 3), (4, .istore_n 1, 1), (5, .aload_n 0, 1), (6, .iconst 0, 1), (7, .putfield 246, 3), (10, .iload_n 1, 1), (11, .ireturn, 1)]
set_option maxRecDepth 100000 in
theorem dk_X10_forget : dec_ok cX10_forget tb_X10_forget = true := by decide +kernel
def tb_X10_bred : List (Nat × Instr × Nat) := [(0, .iload_n 0, 1), (1, .bipush 10, 2), (3, .idiv, 1), (4, .istore_n 2, 1), (5, .iconst 0, 1), (6, .istore_n 3, 1), (7, .iload_n 3, 1), (8, .iload_n 1, 1), (9, .if_icmp .ge 18, 3), (12, .iload_n 2, 1), (13, .iload_n 0, 1), (14, .bipush 10, 2), (16, .irem, 1), (17, .invokestatic 140, 3), (20, .istore_n 2, 1), (21, .iinc 3 1, 3), (24, .goto (-17), 3), (27, .iload_n 2, 1), (28, .ireturn, 1)]
set_option maxRecDepth 100000 in
theorem dk_X10_bred : dec_ok cX10_bred tb_X10_bred = true := by decide +kernel
def tb_X10_isFit : List (Nat × Instr × Nat) := [(0, .iconst 1, 1), (1, .istore_n 2, 1), (2, .iconst 0, 1), (3, .istore_n 3, 1), (4, .iload_n 3, 1), (5, .aload_n 0, 1), (6, .getfield 246, 3), (9, .if_icmp .ge 38, 3), (12, .iload_n 2, 1), (13, .ifCond .eq 26, 3), (16, .iload_n 1, 1), (17, .aload_n 0, 1), (18, .getfield 25, 3), (21, .iload_n 3, 1), (22, .iaload, 1), (23, .invokestatic 249, 3), (26, .aload_n 0, 1), (27, .getfield 28, 3), (30, .iload_n 3, 1), (31, .iaload, 1), (32, .if_icmp .ne 7, 3), (35, .iconst 1, 1), (36, .goto 4, 3), (39, .iconst 0, 1), (40, .istore_n 2, 1), (41, .iinc 3 1, 3), (44, .goto (-40), 3), (47, .iload_n 2, 1), (48, .ireturn, 1)]
set_option maxRecDepth 100000 in
theorem dk_X10_isFit : dec_ok cX10_isFit tb_X10_isFit = true := by decide +kernel
def tb_X10_fits : List (Nat × Instr × Nat) := [(0, .iconst 0, 1), (1, .istore_n 2, 1), (2, .bipush 10, 2), (4, .istore_n 3, 1), (5, .iload_n 3, 1), (6, .bipush 100, 2), (8, .if_icmp .ge 27, 3), (11, .aload_n 0, 1), (12, .iload_n 3, 1), (13, .invokevirtual 252, 3), (16, .ifCond .eq 13, 3), (19, .iload_n 2, 1), (20, .iload_n 1, 1), (21, .if_icmp .ne 5, 3), (24, .iload_n 3, 1), (25, .ireturn, 1), (26, .iinc 2 1, 3), (29, .iinc 3 1, 3), (32, .goto (-27), 3), (35, .iload_n 1, 1), (36, .iconst (-1), 1), (37, .if_icmp .ne 7, 3), (40, .iload_n 2, 1), (41, .goto 5, 3), (44, .bipush (-6), 2), (46, .ireturn, 1)]
set_option maxRecDepth 100000 in
theorem dk_X10_fits : dec_ok cX10_fits tb_X10_fits = true := by decide +kernel
def tb_X10_mostLeft : List (Nat × Instr × Nat) := [(0, .iconst 0, 1), (1, .istore_n 2, 1), (2, .iconst 0, 1), (3, .istore_n 3, 1), (4, .iload_n 3, 1), (5, .bipush 100, 2), (7, .if_icmp .ge 16, 3), (10, .aload_n 0, 1), (11, .getfield 58, 3), (14, .iload_n 3, 1), (15, .iconst 0, 1), (16, .iastore, 1), (17, .iinc 3 1, 3), (20, .goto (-16), 3), (23, .bipush 10, 2), (25, .istore_n 3, 1), (26, .iload_n 3, 1), (27, .bipush 100, 2), (29, .if_icmp .ge 58, 3), (32, .aload_n 0, 1), (33, .iload_n 3, 1), (34, .invokevirtual 252, 3), (37, .ifCond .eq 44, 3), (40, .iload_n 3, 1), (41, .iload_n 1, 1), (42, .invokestatic 249, 3), (45, .istore 4, 2), (47, .aload_n 0, 1), (48, .getfield 58, 3), (51, .iload 4, 2), (53, .dup2, 1), (54, .iaload, 1), (55, .iconst 1, 1), (56, .iadd, 1), (57, .iastore, 1), (58, .aload_n 0, 1), (59, .getfield 58, 3), (62, .iload 4, 2), (64, .iaload, 1), (65, .iload_n 2, 1), (66, .if_icmp .le 13, 3), (69, .aload_n 0, 1), (70, .getfield 58, 3), (73, .iload 4, 2), (75, .iaload, 1), (76, .goto 4, 3), (79, .iload_n 2, 1), (80, .istore_n 2, 1), (81, .iinc 3 1, 3), (84, .goto (-58), 3), (87, .iload_n 2, 1), (88, .ireturn, 1)]
set_option maxRecDepth 100000 in
theorem dk_X10_mostLeft : dec_ok cX10_mostLeft tb_X10_mostLeft = true := by decide +kernel
def tb_X10_ask : List (Nat × Instr × Nat) := [(0, .iload_n 1, 1), (1, .i2l, 1), (2, .lconst 0, 1), (3, .lconst 1, 1), (4, .invokestatic 80, 3), (7, .ifCond .ne 6, 3), (10, .bipush (-2), 2), (12, .ireturn, 1), (13, .iconst 0, 1), (14, .istore_n 2, 1), (15, .aload_n 0, 1), (16, .iconst 0, 1), (17, .invokevirtual 255, 3), (20, .istore_n 3, 1), (21, .iconst 1, 1), (22, .istore 4, 2), (24, .iload 4, 2), (26, .bipush 40, 2), (28, .if_icmp .gt 37, 3), (31, .aload_n 0, 1), (32, .iload 4, 2), (34, .invokevirtual 255, 3), (37, .istore 5, 2), (39, .iload 5, 2), (41, .iload_n 3, 1), (42, .if_icmp .ge 8, 3), (45, .iload 4, 2), (47, .goto 4, 3), (50, .iload_n 2, 1), (51, .istore_n 2, 1), (52, .iload_n 3, 1), (53, .iload 5, 2), (55, .invokestatic 137, 3), (58, .istore_n 3, 1), (59, .iinc 4 1, 3), (62, .goto (-38), 3), (65, .iload_n 3, 1), (66, .ifCond .ne 8, 3), (69, .bipush (-6), 2), (71, .goto 12, 3), (74, .iload_n 1, 1), (75, .ifCond .ne 7, 3), (78, .iload_n 2, 1), (79, .goto 4, 3), (82, .iload_n 3, 1), (83, .ireturn, 1)]
set_option maxRecDepth 100000 in
theorem dk_X10_ask : dec_ok cX10_ask tb_X10_ask = true := by decide +kernel
def tb_X10_isSure : List (Nat × Instr × Nat) := [(0, .iconst 1, 1), (1, .istore 4, 2), (3, .iconst 0, 1), (4, .istore 5, 2), (6, .iload 5, 2), (8, .bipush 8, 2), (10, .if_icmp .ge 75, 3), (13, .iload 5, 2), (15, .iload_n 2, 1), (16, .if_icmp .eq 17, 3), (19, .aload_n 0, 1), (20, .getfield 22, 3), (23, .iload_n 2, 1), (24, .iaload, 1), (25, .iload 5, 2), (27, .invokestatic 149, 3), (30, .ifCond .eq 7, 3), (33, .iconst 1, 1), (34, .goto 4, 3), (37, .iconst 0, 1), (38, .istore 6, 2), (40, .iload 4, 2), (42, .ifCond .eq 34, 3), (45, .iload 6, 2), (47, .ifCond .eq 25, 3), (50, .aload_n 0, 1), (51, .getfield 61, 3), (54, .bipush 8, 2), (56, .iload_n 1, 1), (57, .imul, 1), (58, .iload 5, 2), (60, .iadd, 1), (61, .iaload, 1), (62, .i2l, 1), (63, .lconst 0, 1), (64, .iload_n 3, 1), (65, .i2l, 1), (66, .invokestatic 80, 3), (69, .ifCond .eq 7, 3), (72, .iconst 1, 1), (73, .goto 4, 3), (76, .iconst 0, 1), (77, .istore 4, 2), (79, .iinc 5 1, 3), (82, .goto (-76), 3), (85, .iload_n 1, 1), (86, .iload_n 2, 1), (87, .if_icmp .eq 8, 3), (90, .iload 4, 2), (92, .ifCond .eq 7, 3), (95, .iconst 1, 1), (96, .goto 4, 3), (99, .iconst 0, 1), (100, .ireturn, 1)]
set_option maxRecDepth 100000 in
theorem dk_X10_isSure : dec_ok cX10_isSure tb_X10_isSure = true := by decide +kernel
def tb_X10_sureGoing : List (Nat × Instr × Nat) := [(0, .bipush (-6), 2), (2, .istore 4, 2), (4, .bipush 7, 2), (6, .istore 5, 2), (8, .iload 5, 2), (10, .ifCond .lt 61, 3), (13, .iload 5, 2), (15, .iload_n 1, 1), (16, .if_icmp .eq 17, 3), (19, .aload_n 0, 1), (20, .getfield 22, 3), (23, .iload_n 1, 1), (24, .iaload, 1), (25, .iload 5, 2), (27, .invokestatic 149, 3), (30, .ifCond .eq 7, 3), (33, .iconst 1, 1), (34, .goto 4, 3), (37, .iconst 0, 1), (38, .istore 6, 2), (40, .iload 6, 2), (42, .ifCond .eq 19, 3), (45, .aload_n 0, 1), (46, .iload 5, 2), (48, .iload_n 2, 1), (49, .iload_n 3, 1), (50, .invokevirtual 258, 3), (53, .ifCond .eq 8, 3), (56, .iload 5, 2), (58, .goto 5, 3), (61, .iload 4, 2), (63, .istore 4, 2), (65, .iinc 5 (-1), 3), (68, .goto (-60), 3), (71, .iload 4, 2), (73, .ireturn, 1)]
set_option maxRecDepth 100000 in
theorem dk_X10_sureGoing : dec_ok cX10_sureGoing tb_X10_sureGoing = true := by decide +kernel
def tb_X10_oneGoingMore : List (Nat × Instr × Nat) := [(0, .iconst 0, 1), (1, .istore_n 2, 1), (2, .iconst 0, 1), (3, .istore_n 3, 1), (4, .iload_n 3, 1), (5, .bipush 64, 2), (7, .if_icmp .ge 79, 3), (10, .aload_n 0, 1), (11, .getfield 61, 3), (14, .iload_n 3, 1), (15, .iaload, 1), (16, .ifCond .ge 25, 3), (19, .aload_n 0, 1), (20, .iload_n 3, 1), (21, .bipush 8, 2), (23, .idiv, 1), (24, .iload_n 3, 1), (25, .bipush 8, 2), (27, .irem, 1), (28, .iload_n 1, 1), (29, .iconst 1, 1), (30, .isub, 1), (31, .invokevirtual 262, 3), (34, .ifCond .lt 7, 3), (37, .iconst 1, 1), (38, .goto 4, 3), (41, .iconst 0, 1), (42, .istore 4, 2), (44, .aload_n 0, 1), (45, .getfield 64, 3), (48, .iload_n 3, 1), (49, .iload 4, 2), (51, .ifCond .eq 7, 3), (54, .iload_n 1, 1), (55, .goto 9, 3), (58, .aload_n 0, 1), (59, .getfield 61, 3), (62, .iload_n 3, 1), (63, .iaload, 1), (64, .iastore, 1), (65, .iload_n 2, 1), (66, .ifCond .ne 8, 3), (69, .iload 4, 2), (71, .ifCond .eq 7, 3), (74, .iconst 1, 1), (75, .goto 4, 3), (78, .iconst 0, 1), (79, .istore_n 2, 1), (80, .iinc 3 1, 3), (83, .goto (-79), 3), (86, .iconst 0, 1), (87, .istore_n 3, 1), (88, .iload_n 3, 1), (89, .bipush 64, 2), (91, .if_icmp .ge 21, 3), (94, .aload_n 0, 1), (95, .getfield 61, 3), (98, .iload_n 3, 1), (99, .aload_n 0, 1), (100, .getfield 64, 3), (103, .iload_n 3, 1), (104, .iaload, 1), (105, .iastore, 1), (106, .iinc 3 1, 3), (109, .goto (-21), 3), (112, .iload_n 2, 1), (113, .ireturn, 1)]
set_option maxRecDepth 100000 in
theorem dk_X10_oneGoingMore : dec_ok cX10_oneGoingMore tb_X10_oneGoingMore = true := by decide +kernel
def tb_X10_chase : List (Nat × Instr × Nat) := [(0, .iload_n 1, 1), (1, .invokestatic 84, 3), (4, .ifCond .eq 10, 3), (7, .iload_n 2, 1), (8, .invokestatic 84, 3), (11, .ifCond .ne 5, 3), (14, .iconst (-1), 1), (15, .ireturn, 1), (16, .iload_n 3, 1), (17, .i2l, 1), (18, .lconst 0, 1), (19, .lconst 1, 1), (20, .invokestatic 80, 3), (23, .ifCond .ne 6, 3), (26, .bipush (-2), 2), (28, .ireturn, 1), (29, .iconst 0, 1), (30, .istore 4, 2), (32, .iload 4, 2), (34, .bipush 64, 2), (36, .if_icmp .ge 35, 3), (39, .aload_n 0, 1), (40, .getfield 61, 3), (43, .iload 4, 2), (45, .iload 4, 2), (47, .bipush 8, 2), (49, .idiv, 1), (50, .iload 4, 2), (52, .bipush 8, 2), (54, .irem, 1), (55, .if_icmp .ne 7, 3), (58, .iconst 0, 1), (59, .goto 5, 3), (62, .bipush (-6), 2), (64, .iastore, 1), (65, .iinc 4 1, 3), (68, .goto (-36), 3), (71, .iconst 1, 1), (72, .istore 4, 2), (74, .iconst 1, 1), (75, .istore 5, 2), (77, .iload 4, 2), (79, .ifCond .eq 17, 3), (82, .aload_n 0, 1), (83, .iload 5, 2), (85, .invokevirtual 265, 3), (88, .istore 4, 2), (90, .iinc 5 1, 3), (93, .goto (-16), 3), (96, .aload_n 0, 1), (97, .getfield 61, 3), (100, .bipush 8, 2), (102, .iload_n 1, 1), (103, .imul, 1), (104, .iload_n 2, 1), (105, .iadd, 1), (106, .iaload, 1), (107, .istore 5, 2), (109, .iload_n 3, 1), (110, .ifCond .ne 8, 3), (113, .iload 5, 2), (115, .goto 24, 3), (118, .iload 5, 2), (120, .iconst 1, 1), (121, .if_icmp .ge 8, 3), (124, .bipush (-6), 2), (126, .goto 13, 3), (129, .aload_n 0, 1), (130, .iload_n 1, 1), (131, .iload_n 2, 1), (132, .iload 5, 2), (134, .iconst 1, 1), (135, .isub, 1), (136, .invokevirtual 262, 3), (139, .ireturn, 1)]
set_option maxRecDepth 100000 in
theorem dk_X10_chase : dec_ok cX10_chase tb_X10_chase = true := by decide +kernel
def tb_X10_power : List (Nat × Instr × Nat) := [(0, .lconst 1, 1), (1, .lstore_n 3, 1), (2, .iconst 0, 1), (3, .istore 5, 2), (5, .iload 5, 2), (7, .iload_n 2, 1), (8, .if_icmp .ge 13, 3), (11, .lload_n 3, 1), (12, .lload_n 0, 1), (13, .lmul, 1), (14, .lstore_n 3, 1), (15, .iinc 5 1, 3), (18, .goto (-13), 3), (21, .lload_n 3, 1), (22, .lreturn, 1)]
set_option maxRecDepth 100000 in
theorem dk_X10_power : dec_ok cX10_power tb_X10_power = true := by decide +kernel
def tb_X10_size : List (Nat × Instr × Nat) := [(0, .lload_n 0, 1), (1, .lconst 0, 1), (2, .lcmp, 1), (3, .ifCond .ge 8, 3), (6, .lload_n 0, 1), (7, .lneg, 1), (8, .goto 4, 3), (11, .lload_n 0, 1), (12, .lreturn, 1)]
set_option maxRecDepth 100000 in
theorem dk_X10_size : dec_ok cX10_size tb_X10_size = true := by decide +kernel
def tb_X10_lowest : List (Nat × Instr × Nat) := [(0, .lload_n 2, 1), (1, .lstore 5, 2), (3, .lload_n 0, 1), (4, .lstore 7, 2), (6, .lload 7, 2), (8, .lconst 0, 1), (9, .lcmp, 1), (10, .ifCond .eq 21, 3), (13, .lload 5, 2), (15, .lload 7, 2), (17, .lrem, 1), (18, .lstore 9, 2), (20, .lload 7, 2), (22, .lstore 5, 2), (24, .lload 9, 2), (26, .lstore 7, 2), (28, .goto (-22), 3), (31, .iload 4, 2), (33, .ifCond .ne 10, 3), (36, .lload_n 0, 1), (37, .lload 5, 2), (39, .ldiv, 1), (40, .goto 7, 3), (43, .lload_n 2, 1), (44, .lload 5, 2), (46, .ldiv, 1), (47, .lreturn, 1)]
set_option maxRecDepth 100000 in
theorem dk_X10_lowest : dec_ok cX10_lowest tb_X10_lowest = true := by decide +kernel
def tb_X10_ever : List (Nat × Instr × Nat) := [(0, .iload_n 1, 1), (1, .i2l, 1), (2, .lconst 1, 1), (3, .ldc2_w 268, 3), (6, .invokestatic 80, 3), (9, .ifCond .eq 37, 3), (12, .iload_n 2, 1), (13, .i2l, 1), (14, .lconst 0, 1), (15, .iload_n 1, 1), (16, .i2l, 1), (17, .invokestatic 80, 3), (20, .ifCond .eq 26, 3), (23, .iload_n 3, 1), (24, .i2l, 1), (25, .lconst 1, 1), (26, .ldc2_w 90, 3), (29, .invokestatic 80, 3), (32, .ifCond .eq 14, 3), (35, .iload 4, 2), (37, .i2l, 1), (38, .lconst 0, 1), (39, .lconst 1, 1), (40, .invokestatic 80, 3), (43, .ifCond .ne 7, 3), (46, .ldc2_w 270, 3), (49, .lreturn, 1), (50, .iload_n 3, 1), (51, .iconst 5, 1), (52, .if_icmp .ne 15, 3), (55, .iload_n 1, 1), (56, .iload_n 2, 1), (57, .isub, 1), (58, .i2l, 1), (59, .iload_n 1, 1), (60, .i2l, 1), (61, .iload 4, 2), (63, .invokestatic 272, 3), (66, .lreturn, 1), (67, .ldc2_w 276, 3), (70, .iload_n 3, 1), (71, .i2l, 1), (72, .lsub, 1), (73, .lstore 5, 2), (75, .lload 5, 2), (77, .iload_n 2, 1), (78, .invokestatic 278, 3), (81, .iload_n 3, 1), (82, .i2l, 1), (83, .iload_n 1, 1), (84, .iload_n 2, 1), (85, .isub, 1), (86, .invokestatic 278, 3), (89, .lmul, 1), (90, .lload 5, 2), (92, .iload_n 1, 1), (93, .invokestatic 278, 3), (96, .lsub, 1), (97, .lstore 7, 2), (99, .iload_n 3, 1), (100, .i2l, 1), (101, .iload_n 1, 1), (102, .invokestatic 278, 3), (105, .lload 5, 2), (107, .iload_n 1, 1), (108, .invokestatic 278, 3), (111, .lsub, 1), (112, .lstore 9, 2), (114, .lload 7, 2), (116, .invokestatic 282, 3), (119, .lload 9, 2), (121, .invokestatic 282, 3), (124, .iload 4, 2), (126, .invokestatic 272, 3), (129, .lreturn, 1)]
set_option maxRecDepth 100000 in
theorem dk_X10_ever : dec_ok cX10_ever tb_X10_ever = true := by decide +kernel
def tb_X10_actBy : List (Nat × Instr × Nat) := [(0, .iload_n 0, 1), (1, .bipush 6, 2), (3, .if_icmp .ge 7, 3), (6, .iload_n 0, 1), (7, .goto 5, 3), (10, .bipush 6, 2), (12, .ireturn, 1)]
set_option maxRecDepth 100000 in
theorem dk_X10_actBy : dec_ok cX10_actBy tb_X10_actBy = true := by decide +kernel
def tb_X10_year : List (Nat × Instr × Nat) := [(0, .iload_n 1, 1), (1, .i2l, 1), (2, .lconst 0, 1), (3, .ldc2_w 286, 3), (6, .invokestatic 80, 3), (9, .ifCond .eq 27, 3), (12, .iload_n 2, 1), (13, .i2l, 1), (14, .lconst 1, 1), (15, .ldc2_w 88, 3), (18, .invokestatic 80, 3), (21, .ifCond .eq 15, 3), (24, .iload_n 3, 1), (25, .i2l, 1), (26, .lconst 0, 1), (27, .ldc2_w 202, 3), (30, .invokestatic 80, 3), (33, .ifCond .ne 6, 3), (36, .bipush (-2), 2), (38, .ireturn, 1), (39, .aload_n 0, 1), (40, .invokevirtual 193, 3), (43, .iload_n 1, 1), (44, .istore 4, 2), (46, .iconst 0, 1), (47, .istore 5, 2), (49, .iload 5, 2), (51, .iload_n 2, 1), (52, .if_icmp .ge 107, 3), (55, .ldc2_w 288, 3), (58, .iload 4, 2), (60, .i2l, 1), (61, .lmul, 1), (62, .ldc2_w 290, 3), (65, .ladd, 1), (66, .ldc2_w 292, 3), (69, .lrem, 1), (70, .l2i, 1), (71, .istore 4, 2), (73, .iload 4, 2), (75, .bipush 8, 2), (77, .idiv, 1), (78, .bipush 8, 2), (80, .irem, 1), (81, .invokestatic 294, 3), (84, .istore 6, 2), (86, .iload 4, 2), (88, .bipush 64, 2), (90, .idiv, 1), (91, .istore 7, 2), (93, .iload 6, 2), (95, .iconst 4, 1), (96, .if_icmp .ne 10, 3), (99, .iload 7, 2), (101, .iconst 4, 1), (102, .irem, 1), (103, .ifCond .ne 7, 3), (106, .iconst 1, 1), (107, .goto 4, 3), (110, .iconst 0, 1), (111, .istore 8, 2), (113, .iload 8, 2), (115, .ifCond .eq 38, 3), (118, .aload_n 0, 1), (119, .iload 6, 2), (121, .iload 4, 2), (123, .bipush 8, 2), (125, .irem, 1), (126, .iload 7, 2), (128, .bipush 8, 2), (130, .irem, 1), (131, .invokevirtual 185, 3), (134, .ifCond .ne 19, 3), (137, .aload_n 0, 1), (138, .iload 6, 2), (140, .iload 4, 2), (142, .bipush 8, 2), (144, .irem, 1), (145, .iload 7, 2), (147, .bipush 8, 2), (149, .irem, 1), (150, .invokevirtual 166, 3), (153, .iinc 5 1, 3), (156, .goto (-107), 3), (159, .aload_n 0, 1), (160, .iload_n 3, 1), (161, .ifCond .ne 10, 3), (164, .aload_n 0, 1), (165, .invokevirtual 215, 3), (168, .goto 22, 3), (171, .iload_n 3, 1), (172, .iconst 1, 1), (173, .if_icmp .ne 10, 3), (176, .aload_n 0, 1), (177, .getfield 143, 3), (180, .goto 10, 3), (183, .aload_n 0, 1), (184, .invokevirtual 162, 3), (187, .invokestatic 100, 3), (190, .invokevirtual 207, 3), (193, .ireturn, 1)]
set_option maxRecDepth 100000 in
theorem dk_X10_year : dec_ok cX10_year tb_X10_year = true := by decide +kernel
def tb_X10_pass : List (Nat × Instr × Nat) := [(0, .aload_n 0, 1), (1, .getfield 297, 3), (4, .ifCond .eq 7, 3), (7, .iload_n 1, 1), (8, .goto 12, 3), (11, .aload_n 0, 1), (12, .getfield 67, 3), (15, .aload_n 0, 1), (16, .getfield 301, 3), (19, .iaload, 1), (20, .istore_n 2, 1), (21, .aload_n 0, 1), (22, .getfield 67, 3), (25, .aload_n 0, 1), (26, .getfield 301, 3), (29, .iload_n 2, 1), (30, .iastore, 1), (31, .aload_n 0, 1), (32, .dup, 1), (33, .getfield 301, 3), (36, .iconst 1, 1), (37, .iadd, 1), (38, .putfield 301, 3), (41, .iload_n 2, 1), (42, .ireturn, 1)]
set_option maxRecDepth 100000 in
theorem dk_X10_pass : dec_ok cX10_pass tb_X10_pass = true := by decide +kernel
def tb_X10_passRow : List (Nat × Instr × Nat) := [(0, .iconst 0, 1), (1, .istore_n 3, 1), (2, .iload_n 3, 1), (3, .iload_n 2, 1), (4, .if_icmp .ge 19, 3), (7, .aload_n 1, 1), (8, .iload_n 3, 1), (9, .aload_n 0, 1), (10, .aload_n 1, 1), (11, .iload_n 3, 1), (12, .iaload, 1), (13, .invokevirtual 304, 3), (16, .iastore, 1), (17, .iinc 3 1, 3), (20, .goto (-18), 3), (23, .return_, 1)]
set_option maxRecDepth 100000 in
theorem dk_X10_passRow : dec_ok cX10_passRow tb_X10_passRow = true := by decide +kernel
def tb_X10_passAll : List (Nat × Instr × Nat) := [(0, .aload_n 0, 1), (1, .aload_n 0, 1), (2, .aload_n 0, 1), (3, .getfield 74, 3), (6, .invokevirtual 304, 3), (9, .putfield 74, 3), (12, .aload_n 0, 1), (13, .aload_n 0, 1), (14, .aload_n 0, 1), (15, .getfield 143, 3), (18, .invokevirtual 304, 3), (21, .putfield 143, 3), (24, .aload_n 0, 1), (25, .aload_n 0, 1), (26, .aload_n 0, 1), (27, .getfield 134, 3), (30, .invokevirtual 304, 3), (33, .putfield 134, 3), (36, .aload_n 0, 1), (37, .aload_n 0, 1), (38, .aload_n 0, 1), (39, .getfield 246, 3), (42, .invokevirtual 304, 3), (45, .putfield 246, 3), (48, .aload_n 0, 1), (49, .aload_n 0, 1), (50, .getfield 7, 3), (53, .bipush 8, 2), (55, .invokevirtual 307, 3), (58, .aload_n 0, 1), (59, .aload_n 0, 1), (60, .getfield 13, 3), (63, .bipush 8, 2), (65, .invokevirtual 307, 3), (68, .aload_n 0, 1), (69, .aload_n 0, 1), (70, .getfield 16, 3), (73, .bipush 8, 2), (75, .invokevirtual 307, 3), (78, .aload_n 0, 1), (79, .aload_n 0, 1), (80, .getfield 19, 3), (83, .bipush 8, 2), (85, .invokevirtual 307, 3), (88, .aload_n 0, 1), (89, .aload_n 0, 1), (90, .getfield 22, 3), (93, .bipush 8, 2), (95, .invokevirtual 307, 3), (98, .aload_n 0, 1), (99, .aload_n 0, 1), (100, .getfield 25, 3), (103, .bipush 8, 2), (105, .invokevirtual 307, 3), (108, .aload_n 0, 1), (109, .aload_n 0, 1), (110, .getfield 28, 3), (113, .bipush 8, 2), (115, .invokevirtual 307, 3), (118, .return_, 1)]
set_option maxRecDepth 100000 in
theorem dk_X10_passAll : dec_ok cX10_passAll tb_X10_passAll = true := by decide +kernel
def tb_X10_image : List (Nat × Instr × Nat) := [(0, .iload_n 1, 1), (1, .i2l, 1), (2, .lconst 0, 1), (3, .lconst 1, 1), (4, .invokestatic 80, 3), (7, .ifCond .ne 6, 3), (10, .bipush (-2), 2), (12, .ireturn, 1), (13, .aload_n 0, 1), (14, .bipush 70, 2), (16, .iload_n 1, 1), (17, .imul, 1), (18, .putfield 301, 3), (21, .aload_n 0, 1), (22, .iconst 1, 1), (23, .putfield 297, 3), (26, .aload_n 0, 1), (27, .invokevirtual 311, 3), (30, .aload_n 0, 1), (31, .getfield 70, 3), (34, .iload_n 1, 1), (35, .iconst 1, 1), (36, .bastore, 1), (37, .iconst 1, 1), (38, .ireturn, 1)]
set_option maxRecDepth 100000 in
theorem dk_X10_image : dec_ok cX10_image tb_X10_image = true := by decide +kernel
def tb_X10_restore : List (Nat × Instr × Nat) := [(0, .iload_n 1, 1), (1, .i2l, 1), (2, .lconst 0, 1), (3, .lconst 1, 1), (4, .invokestatic 80, 3), (7, .ifCond .ne 6, 3), (10, .bipush (-2), 2), (12, .ireturn, 1), (13, .aload_n 0, 1), (14, .getfield 70, 3), (17, .iload_n 1, 1), (18, .baload, 1), (19, .ifCond .ne 6, 3), (22, .bipush (-3), 2), (24, .ireturn, 1), (25, .aload_n 0, 1), (26, .bipush 70, 2), (28, .iload_n 1, 1), (29, .imul, 1), (30, .putfield 301, 3), (33, .aload_n 0, 1), (34, .iconst 0, 1), (35, .putfield 297, 3), (38, .aload_n 0, 1), (39, .invokevirtual 311, 3), (42, .iconst 1, 1), (43, .ireturn, 1)]
set_option maxRecDepth 100000 in
theorem dk_X10_restore : dec_ok cX10_restore tb_X10_restore = true := by decide +kernel
def tb_X10_told : List (Nat × Instr × Nat) := [(0, .iload_n 1, 1), (1, .i2l, 1), (2, .ldc2_w 314, 3), (5, .ldc2_w 316, 3), (8, .invokestatic 80, 3), (11, .ifCond .eq 32, 3), (14, .iload_n 1, 1), (15, .bipush 10, 2), (17, .irem, 1), (18, .iconst 4, 1), (19, .if_icmp .ge 21, 3), (22, .aload_n 0, 1), (23, .iload_n 1, 1), (24, .bipush 100, 2), (26, .isub, 1), (27, .bipush 10, 2), (29, .idiv, 1), (30, .iload_n 1, 1), (31, .bipush 10, 2), (33, .irem, 1), (34, .invokevirtual 212, 3), (37, .goto 5, 3), (40, .bipush (-2), 2), (42, .ireturn, 1), (43, .iload_n 1, 1), (44, .i2l, 1), (45, .ldc2_w 276, 3), (48, .ldc2_w 318, 3), (51, .invokestatic 80, 3), (54, .ifCond .eq 13, 3), (57, .aload_n 0, 1), (58, .getfield 22, 3), (61, .iload_n 1, 1), (62, .bipush 10, 2), (64, .isub, 1), (65, .iaload, 1), (66, .ireturn, 1), (67, .iload_n 1, 1), (68, .tableswitch 70 0 5 #[40, 45, 50, 55, 60, 65], 40), (108, .aload_n 0, 1), (109, .getfield 108, 3), (112, .ireturn, 1), (113, .aload_n 0, 1), (114, .invokevirtual 162, 3), (117, .ireturn, 1), (118, .aload_n 0, 1), (119, .getfield 74, 3), (122, .ireturn, 1), (123, .aload_n 0, 1), (124, .getfield 143, 3), (127, .ireturn, 1), (128, .aload_n 0, 1), (129, .getfield 134, 3), (132, .ireturn, 1), (133, .aload_n 0, 1), (134, .getfield 246, 3), (137, .ireturn, 1), (138, .bipush (-2), 2), (140, .ireturn, 1)]
set_option maxRecDepth 100000 in
theorem dk_X10_told : dec_ok cX10_told tb_X10_told = true := by decide +kernel
end
section
-- X9_isHouse (T, depth 0)
def fo_X9_isHouse (v0 : Int32) : Option Int32 :=
  (if v0 < 0 then some (0 : Int32) else (if (8 : Int32) ≤ v0 then some (0 : Int32) else some (1 : Int32)))
def f_X9_isHouse (v0 : Int32) : Int32 :=
  (if v0 < 0 then (0 : Int32) else (if (8 : Int32) ≤ v0 then (0 : Int32) else (1 : Int32)))
theorem fe_X9_isHouse (v0 : Int32) : fo_X9_isHouse v0 = some (f_X9_isHouse v0) := by
  unfold fo_X9_isHouse f_X9_isHouse
  simp only [apply_ite some]
theorem fb_X9_isHouse (v0 : Int32) : f_X9_isHouse v0 = 0 ∨ f_X9_isHouse v0 = 1 := by
  unfold f_X9_isHouse
  (repeat' split) <;> first | exact Or.inl rfl | exact Or.inr rfl
set_option maxRecDepth 20000 in
set_option maxHeartbeats 2000000 in
theorem sp_X9_isHouse (v0 : Int32) (M : Mem) : SpO (wR M) yX9_isHouse cX9_isHouse 1 (some .boolean) 0 [.int v0] M (some (f_X9_isHouse v0)) := by
  rw [← fe_X9_isHouse]
  refine sp_of (L := [some (.int v0)]) rfl (by decide +kernel) rfl rfl ?_
  unfold fo_X9_isHouse
  refine e_iload_n (dt dk_X9_isHouse 0 rfl) rfl ?_
  refine e_if_lt 14 (dt dk_X9_isHouse 1 rfl) (by decide) (fun h1 => ?_) (fun h1 => ?_)
  · refine e_iconst (v := (0 : Int32)) (dt dk_X9_isHouse 7 rfl) (by decide) ?_
    exact e_iret (dt dk_X9_isHouse 8 rfl) rfl rfl rfl
  · refine e_iload_n (dt dk_X9_isHouse 2 rfl) rfl ?_
    refine e_bipush (v := (8 : Int32)) (dt dk_X9_isHouse 3 rfl) (by decide) ?_
    refine e_icmp_ge 14 (dt dk_X9_isHouse 4 rfl) (by decide) (fun h2 => ?_) (fun h2 => ?_)
    · refine e_iconst (v := (0 : Int32)) (dt dk_X9_isHouse 7 rfl) (by decide) ?_
      exact e_iret (dt dk_X9_isHouse 8 rfl) rfl rfl rfl
    · refine e_iconst (v := (1 : Int32)) (dt dk_X9_isHouse 5 rfl) (by decide) ?_
      refine e_goto 15 (dt dk_X9_isHouse 6 rfl) (by decide) ?_
      exact e_iret (dt dk_X9_isHouse 8 rfl) rfl rfl rfl
-- X9_within (T, depth 0)
def fo_X9_within (v0 : Int32) (v1 : Int32) (v2 : Int32) : Option Int32 :=
  (if v0 < v1 then some (0 : Int32) else (if v2 < v0 then some (0 : Int32) else some (1 : Int32)))
def f_X9_within (v0 : Int32) (v1 : Int32) (v2 : Int32) : Int32 :=
  (if v0 < v1 then (0 : Int32) else (if v2 < v0 then (0 : Int32) else (1 : Int32)))
theorem fe_X9_within (v0 : Int32) (v1 : Int32) (v2 : Int32) : fo_X9_within v0 v1 v2 = some (f_X9_within v0 v1 v2) := by
  unfold fo_X9_within f_X9_within
  simp only [apply_ite some]
theorem fb_X9_within (v0 : Int32) (v1 : Int32) (v2 : Int32) : f_X9_within v0 v1 v2 = 0 ∨ f_X9_within v0 v1 v2 = 1 := by
  unfold f_X9_within
  (repeat' split) <;> first | exact Or.inl rfl | exact Or.inr rfl
set_option maxRecDepth 20000 in
set_option maxHeartbeats 2000000 in
theorem sp_X9_within (v0 : Int32) (v1 : Int32) (v2 : Int32) (M : Mem) : SpO (wR M) yX9_within cX9_within 3 (some .boolean) 0 [.int v0, .int v1, .int v2] M (some (f_X9_within v0 v1 v2)) := by
  rw [← fe_X9_within]
  refine sp_of (L := [some (.int v0), some (.int v1), some (.int v2)]) rfl (by decide +kernel) rfl rfl ?_
  unfold fo_X9_within
  refine e_iload_n (dt dk_X9_within 0 rfl) rfl ?_
  refine e_iload_n (dt dk_X9_within 1 rfl) rfl ?_
  refine e_icmp_lt 14 (dt dk_X9_within 2 rfl) (by decide) (fun h1 => ?_) (fun h1 => ?_)
  · refine e_iconst (v := (0 : Int32)) (dt dk_X9_within 8 rfl) (by decide) ?_
    exact e_iret (dt dk_X9_within 9 rfl) rfl rfl rfl
  · refine e_iload_n (dt dk_X9_within 3 rfl) rfl ?_
    refine e_iload_n (dt dk_X9_within 4 rfl) rfl ?_
    refine e_icmp_gt 14 (dt dk_X9_within 5 rfl) (by decide) (fun h2 => ?_) (fun h2 => ?_)
    · refine e_iconst (v := (0 : Int32)) (dt dk_X9_within 8 rfl) (by decide) ?_
      exact e_iret (dt dk_X9_within 9 rfl) rfl rfl rfl
    · refine e_iconst (v := (1 : Int32)) (dt dk_X9_within 6 rfl) (by decide) ?_
      refine e_goto 15 (dt dk_X9_within 7 rfl) (by decide) ?_
      exact e_iret (dt dk_X9_within 9 rfl) rfl rfl rfl
-- X8_hasHole_1 (R, depth 1)
def f_X8_hasHole_1 (v1 : Int32) (v2 : Int32) (M : Mem) : Option Int32 :=
  (if (f_X9_isHouse v1) = 0 then some (0 : Int32) else if inb v1 8 then (if (((M 6 (ix v1)) >>> (v2 &&& 31)) &&& (1 : Int32)) = (1 : Int32) then some (1 : Int32) else some (0 : Int32)) else none)
set_option maxRecDepth 20000 in
set_option maxHeartbeats 2000000 in
theorem sp_X8_hasHole_1 (v1 : Int32) (v2 : Int32) (M : Mem) : SpO (wR M) yX8_hasHole cX8_hasHole 3 (some .boolean) 1 [.ref 1, .int v1, .int v2] M (f_X8_hasHole_1 v1 v2 M) := by
  refine sp_of (L := [some (.ref 1), some (.int v1), some (.int v2)]) rfl (by decide +kernel) rfl rfl ?_
  unfold f_X8_hasHole_1
  refine e_iload_n (dt dk_X8_hasHole 0 rfl) rfl ?_
  refine ev_callT (ca_SN ms_X9_isHouse (sp_X9_isHouse v1 M) (dt dk_X8_hasHole 1 rfl) mn_X8_46 rfl rfl rfl (by decide) : Ca _ _ _ _ _ _ _ _ [] _ _) ?_
  show Ev _ _ _ _ _ _ 4 [some (.ref 1), some (.int v1), some (.int v2)] [.int (f_X9_isHouse v1)] M _
  refine e_if_eq 25 (dt dk_X8_hasHole 2 rfl) (by decide) (fun h1 => ?_) (fun h1 => ?_)
  · refine e_iconst (v := (0 : Int32)) (dt dk_X8_hasHole 15 rfl) (by decide) ?_
    exact e_iret (dt dk_X8_hasHole 16 rfl) rfl rfl rfl
  · refine e_aload_n (dt dk_X8_hasHole 3 rfl) rfl ?_
    refine e_getR ci_X8 (dt dk_X8_hasHole 4 rfl) rfl (by decide) rfl fl_X8_24 ?_
    refine e_iload_n (dt dk_X8_hasHole 5 rfl) rfl ?_
    refine e_if (fun h2 => ?_)
    refine e_iald' (v := (M 6 (ix v1))) (dt dk_X8_hasHole 6 rfl) rfl h2 rfl ?_
    refine e_iload_n (dt dk_X8_hasHole 7 rfl) rfl ?_
    refine e_ishr (dt dk_X8_hasHole 8 rfl) ?_
    refine e_iconst (v := (1 : Int32)) (dt dk_X8_hasHole 9 rfl) (by decide) ?_
    refine e_iand (dt dk_X8_hasHole 10 rfl) ?_
    refine e_iconst (v := (1 : Int32)) (dt dk_X8_hasHole 11 rfl) (by decide) ?_
    refine e_icmp_ne 25 (dt dk_X8_hasHole 12 rfl) (by decide) (fun h3 => ?_) (fun h3 => ?_)
    · refine e_iconst (v := (1 : Int32)) (dt dk_X8_hasHole 13 rfl) (by decide) ?_
      refine e_goto 26 (dt dk_X8_hasHole 14 rfl) (by decide) ?_
      exact e_iret (dt dk_X8_hasHole 16 rfl) rfl rfl rfl
    · refine e_iconst (v := (0 : Int32)) (dt dk_X8_hasHole 15 rfl) (by decide) ?_
      exact e_iret (dt dk_X8_hasHole 16 rfl) rfl rfl rfl
-- J6_bitCount_0f7a4 (T, depth 0)
def fo_J6_bitCount_0f7a4 (v0 : Int32) : Option Int32 :=
  some ((((((((v0 - ((ushr v0 (1 : Int32)) &&& (1431655765 : Int32))) &&& (858993459 : Int32)) + ((ushr (v0 - ((ushr v0 (1 : Int32)) &&& (1431655765 : Int32))) (2 : Int32)) &&& (858993459 : Int32))) + (ushr (((v0 - ((ushr v0 (1 : Int32)) &&& (1431655765 : Int32))) &&& (858993459 : Int32)) + ((ushr (v0 - ((ushr v0 (1 : Int32)) &&& (1431655765 : Int32))) (2 : Int32)) &&& (858993459 : Int32))) (4 : Int32))) &&& (252645135 : Int32)) + (ushr (((((v0 - ((ushr v0 (1 : Int32)) &&& (1431655765 : Int32))) &&& (858993459 : Int32)) + ((ushr (v0 - ((ushr v0 (1 : Int32)) &&& (1431655765 : Int32))) (2 : Int32)) &&& (858993459 : Int32))) + (ushr (((v0 - ((ushr v0 (1 : Int32)) &&& (1431655765 : Int32))) &&& (858993459 : Int32)) + ((ushr (v0 - ((ushr v0 (1 : Int32)) &&& (1431655765 : Int32))) (2 : Int32)) &&& (858993459 : Int32))) (4 : Int32))) &&& (252645135 : Int32)) (8 : Int32))) + (ushr ((((((v0 - ((ushr v0 (1 : Int32)) &&& (1431655765 : Int32))) &&& (858993459 : Int32)) + ((ushr (v0 - ((ushr v0 (1 : Int32)) &&& (1431655765 : Int32))) (2 : Int32)) &&& (858993459 : Int32))) + (ushr (((v0 - ((ushr v0 (1 : Int32)) &&& (1431655765 : Int32))) &&& (858993459 : Int32)) + ((ushr (v0 - ((ushr v0 (1 : Int32)) &&& (1431655765 : Int32))) (2 : Int32)) &&& (858993459 : Int32))) (4 : Int32))) &&& (252645135 : Int32)) + (ushr (((((v0 - ((ushr v0 (1 : Int32)) &&& (1431655765 : Int32))) &&& (858993459 : Int32)) + ((ushr (v0 - ((ushr v0 (1 : Int32)) &&& (1431655765 : Int32))) (2 : Int32)) &&& (858993459 : Int32))) + (ushr (((v0 - ((ushr v0 (1 : Int32)) &&& (1431655765 : Int32))) &&& (858993459 : Int32)) + ((ushr (v0 - ((ushr v0 (1 : Int32)) &&& (1431655765 : Int32))) (2 : Int32)) &&& (858993459 : Int32))) (4 : Int32))) &&& (252645135 : Int32)) (8 : Int32))) (16 : Int32))) &&& (63 : Int32))
def f_J6_bitCount_0f7a4 (v0 : Int32) : Int32 :=
  ((((((((v0 - ((ushr v0 (1 : Int32)) &&& (1431655765 : Int32))) &&& (858993459 : Int32)) + ((ushr (v0 - ((ushr v0 (1 : Int32)) &&& (1431655765 : Int32))) (2 : Int32)) &&& (858993459 : Int32))) + (ushr (((v0 - ((ushr v0 (1 : Int32)) &&& (1431655765 : Int32))) &&& (858993459 : Int32)) + ((ushr (v0 - ((ushr v0 (1 : Int32)) &&& (1431655765 : Int32))) (2 : Int32)) &&& (858993459 : Int32))) (4 : Int32))) &&& (252645135 : Int32)) + (ushr (((((v0 - ((ushr v0 (1 : Int32)) &&& (1431655765 : Int32))) &&& (858993459 : Int32)) + ((ushr (v0 - ((ushr v0 (1 : Int32)) &&& (1431655765 : Int32))) (2 : Int32)) &&& (858993459 : Int32))) + (ushr (((v0 - ((ushr v0 (1 : Int32)) &&& (1431655765 : Int32))) &&& (858993459 : Int32)) + ((ushr (v0 - ((ushr v0 (1 : Int32)) &&& (1431655765 : Int32))) (2 : Int32)) &&& (858993459 : Int32))) (4 : Int32))) &&& (252645135 : Int32)) (8 : Int32))) + (ushr ((((((v0 - ((ushr v0 (1 : Int32)) &&& (1431655765 : Int32))) &&& (858993459 : Int32)) + ((ushr (v0 - ((ushr v0 (1 : Int32)) &&& (1431655765 : Int32))) (2 : Int32)) &&& (858993459 : Int32))) + (ushr (((v0 - ((ushr v0 (1 : Int32)) &&& (1431655765 : Int32))) &&& (858993459 : Int32)) + ((ushr (v0 - ((ushr v0 (1 : Int32)) &&& (1431655765 : Int32))) (2 : Int32)) &&& (858993459 : Int32))) (4 : Int32))) &&& (252645135 : Int32)) + (ushr (((((v0 - ((ushr v0 (1 : Int32)) &&& (1431655765 : Int32))) &&& (858993459 : Int32)) + ((ushr (v0 - ((ushr v0 (1 : Int32)) &&& (1431655765 : Int32))) (2 : Int32)) &&& (858993459 : Int32))) + (ushr (((v0 - ((ushr v0 (1 : Int32)) &&& (1431655765 : Int32))) &&& (858993459 : Int32)) + ((ushr (v0 - ((ushr v0 (1 : Int32)) &&& (1431655765 : Int32))) (2 : Int32)) &&& (858993459 : Int32))) (4 : Int32))) &&& (252645135 : Int32)) (8 : Int32))) (16 : Int32))) &&& (63 : Int32))
theorem fe_J6_bitCount_0f7a4 (v0 : Int32) : fo_J6_bitCount_0f7a4 v0 = some (f_J6_bitCount_0f7a4 v0) := by
  unfold fo_J6_bitCount_0f7a4 f_J6_bitCount_0f7a4
  simp only [apply_ite some]
set_option maxRecDepth 20000 in
set_option maxHeartbeats 2000000 in
theorem sp_J6_bitCount_0f7a4 (v0 : Int32) (M : Mem) : SpO (wR M) yJ6_bitCount_0f7a4 cJ6_bitCount_0f7a4 1 (some .int) 0 [.int v0] M (some (f_J6_bitCount_0f7a4 v0)) := by
  rw [← fe_J6_bitCount_0f7a4]
  refine sp_of (L := [some (.int v0)]) rfl (by decide +kernel) rfl rfl ?_
  unfold fo_J6_bitCount_0f7a4
  refine e_iload_n (dt dk_J6_bitCount_0f7a4 0 rfl) rfl ?_
  refine e_iload_n (dt dk_J6_bitCount_0f7a4 1 rfl) rfl ?_
  refine e_iconst (v := (1 : Int32)) (dt dk_J6_bitCount_0f7a4 2 rfl) (by decide) ?_
  refine e_iushr (dt dk_J6_bitCount_0f7a4 3 rfl) ?_
  refine e_ldcw (v := (1431655765 : Int32)) (dt dk_J6_bitCount_0f7a4 4 rfl) kc_J6_265 ?_
  refine e_iand (dt dk_J6_bitCount_0f7a4 5 rfl) ?_
  refine e_isub (dt dk_J6_bitCount_0f7a4 6 rfl) ?_
  refine e_istore_n [some (.int (v0 - ((ushr v0 (1 : Int32)) &&& (1431655765 : Int32))))] (dt dk_J6_bitCount_0f7a4 7 rfl) rfl rfl rfl ?_
  refine e_iload_n (dt dk_J6_bitCount_0f7a4 8 rfl) rfl ?_
  refine e_ldcw (v := (858993459 : Int32)) (dt dk_J6_bitCount_0f7a4 9 rfl) kc_J6_266 ?_
  refine e_iand (dt dk_J6_bitCount_0f7a4 10 rfl) ?_
  refine e_iload_n (dt dk_J6_bitCount_0f7a4 11 rfl) rfl ?_
  refine e_iconst (v := (2 : Int32)) (dt dk_J6_bitCount_0f7a4 12 rfl) (by decide) ?_
  refine e_iushr (dt dk_J6_bitCount_0f7a4 13 rfl) ?_
  refine e_ldcw (v := (858993459 : Int32)) (dt dk_J6_bitCount_0f7a4 14 rfl) kc_J6_266 ?_
  refine e_iand (dt dk_J6_bitCount_0f7a4 15 rfl) ?_
  refine e_iadd (dt dk_J6_bitCount_0f7a4 16 rfl) ?_
  refine e_istore_n [some (.int (((v0 - ((ushr v0 (1 : Int32)) &&& (1431655765 : Int32))) &&& (858993459 : Int32)) + ((ushr (v0 - ((ushr v0 (1 : Int32)) &&& (1431655765 : Int32))) (2 : Int32)) &&& (858993459 : Int32))))] (dt dk_J6_bitCount_0f7a4 17 rfl) rfl rfl rfl ?_
  refine e_iload_n (dt dk_J6_bitCount_0f7a4 18 rfl) rfl ?_
  refine e_iload_n (dt dk_J6_bitCount_0f7a4 19 rfl) rfl ?_
  refine e_iconst (v := (4 : Int32)) (dt dk_J6_bitCount_0f7a4 20 rfl) (by decide) ?_
  refine e_iushr (dt dk_J6_bitCount_0f7a4 21 rfl) ?_
  refine e_iadd (dt dk_J6_bitCount_0f7a4 22 rfl) ?_
  refine e_ldcw (v := (252645135 : Int32)) (dt dk_J6_bitCount_0f7a4 23 rfl) kc_J6_267 ?_
  refine e_iand (dt dk_J6_bitCount_0f7a4 24 rfl) ?_
  refine e_istore_n [some (.int (((((v0 - ((ushr v0 (1 : Int32)) &&& (1431655765 : Int32))) &&& (858993459 : Int32)) + ((ushr (v0 - ((ushr v0 (1 : Int32)) &&& (1431655765 : Int32))) (2 : Int32)) &&& (858993459 : Int32))) + (ushr (((v0 - ((ushr v0 (1 : Int32)) &&& (1431655765 : Int32))) &&& (858993459 : Int32)) + ((ushr (v0 - ((ushr v0 (1 : Int32)) &&& (1431655765 : Int32))) (2 : Int32)) &&& (858993459 : Int32))) (4 : Int32))) &&& (252645135 : Int32)))] (dt dk_J6_bitCount_0f7a4 25 rfl) rfl rfl rfl ?_
  refine e_iload_n (dt dk_J6_bitCount_0f7a4 26 rfl) rfl ?_
  refine e_iload_n (dt dk_J6_bitCount_0f7a4 27 rfl) rfl ?_
  refine e_bipush (v := (8 : Int32)) (dt dk_J6_bitCount_0f7a4 28 rfl) (by decide) ?_
  refine e_iushr (dt dk_J6_bitCount_0f7a4 29 rfl) ?_
  refine e_iadd (dt dk_J6_bitCount_0f7a4 30 rfl) ?_
  refine e_istore_n [some (.int ((((((v0 - ((ushr v0 (1 : Int32)) &&& (1431655765 : Int32))) &&& (858993459 : Int32)) + ((ushr (v0 - ((ushr v0 (1 : Int32)) &&& (1431655765 : Int32))) (2 : Int32)) &&& (858993459 : Int32))) + (ushr (((v0 - ((ushr v0 (1 : Int32)) &&& (1431655765 : Int32))) &&& (858993459 : Int32)) + ((ushr (v0 - ((ushr v0 (1 : Int32)) &&& (1431655765 : Int32))) (2 : Int32)) &&& (858993459 : Int32))) (4 : Int32))) &&& (252645135 : Int32)) + (ushr (((((v0 - ((ushr v0 (1 : Int32)) &&& (1431655765 : Int32))) &&& (858993459 : Int32)) + ((ushr (v0 - ((ushr v0 (1 : Int32)) &&& (1431655765 : Int32))) (2 : Int32)) &&& (858993459 : Int32))) + (ushr (((v0 - ((ushr v0 (1 : Int32)) &&& (1431655765 : Int32))) &&& (858993459 : Int32)) + ((ushr (v0 - ((ushr v0 (1 : Int32)) &&& (1431655765 : Int32))) (2 : Int32)) &&& (858993459 : Int32))) (4 : Int32))) &&& (252645135 : Int32)) (8 : Int32))))] (dt dk_J6_bitCount_0f7a4 31 rfl) rfl rfl rfl ?_
  refine e_iload_n (dt dk_J6_bitCount_0f7a4 32 rfl) rfl ?_
  refine e_iload_n (dt dk_J6_bitCount_0f7a4 33 rfl) rfl ?_
  refine e_bipush (v := (16 : Int32)) (dt dk_J6_bitCount_0f7a4 34 rfl) (by decide) ?_
  refine e_iushr (dt dk_J6_bitCount_0f7a4 35 rfl) ?_
  refine e_iadd (dt dk_J6_bitCount_0f7a4 36 rfl) ?_
  refine e_istore_n [some (.int (((((((v0 - ((ushr v0 (1 : Int32)) &&& (1431655765 : Int32))) &&& (858993459 : Int32)) + ((ushr (v0 - ((ushr v0 (1 : Int32)) &&& (1431655765 : Int32))) (2 : Int32)) &&& (858993459 : Int32))) + (ushr (((v0 - ((ushr v0 (1 : Int32)) &&& (1431655765 : Int32))) &&& (858993459 : Int32)) + ((ushr (v0 - ((ushr v0 (1 : Int32)) &&& (1431655765 : Int32))) (2 : Int32)) &&& (858993459 : Int32))) (4 : Int32))) &&& (252645135 : Int32)) + (ushr (((((v0 - ((ushr v0 (1 : Int32)) &&& (1431655765 : Int32))) &&& (858993459 : Int32)) + ((ushr (v0 - ((ushr v0 (1 : Int32)) &&& (1431655765 : Int32))) (2 : Int32)) &&& (858993459 : Int32))) + (ushr (((v0 - ((ushr v0 (1 : Int32)) &&& (1431655765 : Int32))) &&& (858993459 : Int32)) + ((ushr (v0 - ((ushr v0 (1 : Int32)) &&& (1431655765 : Int32))) (2 : Int32)) &&& (858993459 : Int32))) (4 : Int32))) &&& (252645135 : Int32)) (8 : Int32))) + (ushr ((((((v0 - ((ushr v0 (1 : Int32)) &&& (1431655765 : Int32))) &&& (858993459 : Int32)) + ((ushr (v0 - ((ushr v0 (1 : Int32)) &&& (1431655765 : Int32))) (2 : Int32)) &&& (858993459 : Int32))) + (ushr (((v0 - ((ushr v0 (1 : Int32)) &&& (1431655765 : Int32))) &&& (858993459 : Int32)) + ((ushr (v0 - ((ushr v0 (1 : Int32)) &&& (1431655765 : Int32))) (2 : Int32)) &&& (858993459 : Int32))) (4 : Int32))) &&& (252645135 : Int32)) + (ushr (((((v0 - ((ushr v0 (1 : Int32)) &&& (1431655765 : Int32))) &&& (858993459 : Int32)) + ((ushr (v0 - ((ushr v0 (1 : Int32)) &&& (1431655765 : Int32))) (2 : Int32)) &&& (858993459 : Int32))) + (ushr (((v0 - ((ushr v0 (1 : Int32)) &&& (1431655765 : Int32))) &&& (858993459 : Int32)) + ((ushr (v0 - ((ushr v0 (1 : Int32)) &&& (1431655765 : Int32))) (2 : Int32)) &&& (858993459 : Int32))) (4 : Int32))) &&& (252645135 : Int32)) (8 : Int32))) (16 : Int32))))] (dt dk_J6_bitCount_0f7a4 37 rfl) rfl rfl rfl ?_
  refine e_iload_n (dt dk_J6_bitCount_0f7a4 38 rfl) rfl ?_
  refine e_bipush (v := (63 : Int32)) (dt dk_J6_bitCount_0f7a4 39 rfl) (by decide) ?_
  refine e_iand (dt dk_J6_bitCount_0f7a4 40 rfl) ?_
  exact e_iret (dt dk_J6_bitCount_0f7a4 41 rfl) rfl rfl rfl
-- X8_countHoles_1 (R, depth 1)
def bd_X8_countHoles_1_4 (M : Mem)  (K4 : Int32 → Int32 → Option Int32) (v1 : Int32) (v2 : Int32) : Option Int32 :=
  (if (8 : Int32) ≤ v2 then some (v1 / (2 : Int32)) else if inb v2 8 then (K4 (v1 + (f_J6_bitCount_0f7a4 (M 6 (ix v2)))) (v2 + (1 : Int32))) else none)
set_option maxRecDepth 20000 in
set_option maxHeartbeats 2000000 in
theorem ev_bd_X8_countHoles_1_4 (M : Mem)  (K4 : Int32 → Int32 → Option Int32)  (hK4 : ∀ (v1 : Int32) (v2 : Int32), Ev none (wR M) RX8 cX8_countHoles (some .int) 1 4 [some (.ref 1), some (.int v1), some (.int v2)] [] M (K4 v1 v2)) (v1 : Int32) (v2 : Int32) : Ev none (wR M) RX8 cX8_countHoles (some .int) 1 4 [some (.ref 1), some (.int v1), some (.int v2)] [] M (bd_X8_countHoles_1_4 M K4 v1 v2) := by
  unfold bd_X8_countHoles_1_4
  refine e_iload_n (dt dk_X8_countHoles 4 rfl) rfl ?_
  refine e_bipush (v := (8 : Int32)) (dt dk_X8_countHoles 5 rfl) (by decide) ?_
  refine e_icmp_ge 28 (dt dk_X8_countHoles 6 rfl) (by decide) (fun h1 => ?_) (fun h1 => ?_)
  · refine e_iload_n (dt dk_X8_countHoles 17 rfl) rfl ?_
    refine e_iconst (v := (2 : Int32)) (dt dk_X8_countHoles 18 rfl) (by decide) ?_
    refine e_idiv' (dt dk_X8_countHoles 19 rfl) (by decide) ?_
    show Ev _ _ _ _ _ _ 31 [some (.ref 1), some (.int v1), some (.int v2)] [.int (v1 / (2 : Int32))] M _
    exact e_iret (dt dk_X8_countHoles 20 rfl) rfl rfl rfl
  · refine e_iload_n (dt dk_X8_countHoles 7 rfl) rfl ?_
    refine e_aload_n (dt dk_X8_countHoles 8 rfl) rfl ?_
    refine e_getR ci_X8 (dt dk_X8_countHoles 9 rfl) rfl (by decide) rfl fl_X8_24 ?_
    refine e_iload_n (dt dk_X8_countHoles 10 rfl) rfl ?_
    refine e_if (fun h2 => ?_)
    refine e_iald' (v := (M 6 (ix v2))) (dt dk_X8_countHoles 11 rfl) rfl h2 rfl ?_
    refine ev_callT (ca_S ms_J6_bitCount_0f7a4 (sp_J6_bitCount_0f7a4 (M 6 (ix v2)) M) (dt dk_X8_countHoles 12 rfl) ml_X8_50 rfl rfl rfl (by decide) : Ca _ _ _ _ _ _ _ _ [.int v1] _ _) ?_
    show Ev _ _ _ _ _ _ 20 [some (.ref 1), some (.int v1), some (.int v2)] [.int (f_J6_bitCount_0f7a4 (M 6 (ix v2))), .int v1] M _
    refine e_iadd (dt dk_X8_countHoles 13 rfl) ?_
    refine e_istore_n [some (.ref 1), some (.int (v1 + (f_J6_bitCount_0f7a4 (M 6 (ix v2))))), some (.int v2)] (dt dk_X8_countHoles 14 rfl) rfl rfl rfl ?_
    refine e_iinc [some (.ref 1), some (.int (v1 + (f_J6_bitCount_0f7a4 (M 6 (ix v2))))), some (.int (v2 + (1 : Int32)))] (dt dk_X8_countHoles 15 rfl) rfl rfl rfl rfl ?_
    refine e_goto 4 (dt dk_X8_countHoles 16 rfl) (by decide) ?_
    exact e_forget [true, true, true] [some (.ref 1), some (.int (v1 + (f_J6_bitCount_0f7a4 (M 6 (ix v2))))), some (.int (v2 + (1 : Int32)))] ⟨rfl, rfl⟩ (hK4 (v1 + (f_J6_bitCount_0f7a4 (M 6 (ix v2)))) (v2 + (1 : Int32)))
def lp_X8_countHoles_1_4 (M : Mem)  : Nat → Int32 → Int32 → Option Int32
  | 0 => fun _ _ => none
  | n + 1 => bd_X8_countHoles_1_4 M (lp_X8_countHoles_1_4 M n)
theorem ev_lp_X8_countHoles_1_4 (M : Mem)   : ∀ (n : Nat), ∀ (v1 : Int32) (v2 : Int32), Ev none (wR M) RX8 cX8_countHoles (some .int) 1 4 [some (.ref 1), some (.int v1), some (.int v2)] [] M (lp_X8_countHoles_1_4 M n v1 v2)
  | 0 => fun _ _ => e_none
  | n + 1 => ev_bd_X8_countHoles_1_4 M (lp_X8_countHoles_1_4 M n) (ev_lp_X8_countHoles_1_4 M n)
def f_X8_countHoles_1  (M : Mem) : Option Int32 :=
  (lp_X8_countHoles_1_4 M FU (0 : Int32) (0 : Int32))
set_option maxRecDepth 20000 in
set_option maxHeartbeats 2000000 in
theorem sp_X8_countHoles_1  (M : Mem) : SpO (wR M) yX8_countHoles cX8_countHoles 3 (some .int) 1 [.ref 1] M (f_X8_countHoles_1 M) := by
  refine sp_of (L := [some (.ref 1), none, none]) rfl (by decide +kernel) rfl rfl ?_
  unfold f_X8_countHoles_1
  refine e_iconst (v := (0 : Int32)) (dt dk_X8_countHoles 0 rfl) (by decide) ?_
  refine e_istore_n [some (.ref 1), some (.int (0 : Int32)), none] (dt dk_X8_countHoles 1 rfl) rfl rfl rfl ?_
  refine e_iconst (v := (0 : Int32)) (dt dk_X8_countHoles 2 rfl) (by decide) ?_
  refine e_istore_n [some (.ref 1), some (.int (0 : Int32)), some (.int (0 : Int32))] (dt dk_X8_countHoles 3 rfl) rfl rfl rfl ?_
  exact e_forget [true, true, true] [some (.ref 1), some (.int (0 : Int32)), some (.int (0 : Int32))] ⟨rfl, rfl⟩ (ev_lp_X8_countHoles_1_4 M FU (0 : Int32) (0 : Int32))
-- X8_turnHole_1 (W, depth 1)
def f_X8_turnHole_1 (v1 : Int32) (v2 : Int32) (M : Mem) : Option Mem :=
  (if (f_X9_isHouse v1) = 0 then some M else (if (f_X9_isHouse v2) = 0 then some M else if inb v1 8 then if inb v1 8 then if inb v2 8 then if inb v2 8 then some (up2 (up2 M 6 (ix v1) ((M 6 (ix v1)) ^^^ ((1 : Int32) <<< (v2 &&& 31)))) 6 (ix v2) (((up2 M 6 (ix v1) ((M 6 (ix v1)) ^^^ ((1 : Int32) <<< (v2 &&& 31)))) 6 (ix v2)) ^^^ ((1 : Int32) <<< (v1 &&& 31)))) else none else none else none else none))
set_option maxRecDepth 20000 in
set_option maxHeartbeats 2000000 in
theorem sp_X8_turnHole_1 (v1 : Int32) (v2 : Int32) (M : Mem) : SpO wV yX8_turnHole cX8_turnHole 3 none 1 [.ref 1, .int v1, .int v2] M (f_X8_turnHole_1 v1 v2 M) := by
  refine sp_of (L := [some (.ref 1), some (.int v1), some (.int v2)]) rfl (by decide +kernel) rfl rfl ?_
  unfold f_X8_turnHole_1
  refine e_iload_n (dt dk_X8_turnHole 0 rfl) rfl ?_
  refine ev_callT (ca_SN ms_X9_isHouse (sp_X9_isHouse v1 M) (dt dk_X8_turnHole 1 rfl) mn_X8_46 rfl rfl rfl (by decide) : Ca _ _ _ _ _ _ _ _ [] _ _) ?_
  show Ev _ _ _ _ _ _ 4 [some (.ref 1), some (.int v1), some (.int v2)] [.int (f_X9_isHouse v1)] M _
  refine e_if_eq 38 (dt dk_X8_turnHole 2 rfl) (by decide) (fun h1 => ?_) (fun h1 => ?_)
  · exact e_vret (dt dk_X8_turnHole 26 rfl) rfl rfl
  · refine e_iload_n (dt dk_X8_turnHole 3 rfl) rfl ?_
    refine ev_callT (ca_SN ms_X9_isHouse (sp_X9_isHouse v2 M) (dt dk_X8_turnHole 4 rfl) mn_X8_46 rfl rfl rfl (by decide) : Ca _ _ _ _ _ _ _ _ [] _ _) ?_
    show Ev _ _ _ _ _ _ 11 [some (.ref 1), some (.int v1), some (.int v2)] [.int (f_X9_isHouse v2)] M _
    refine e_if_eq 38 (dt dk_X8_turnHole 5 rfl) (by decide) (fun h2 => ?_) (fun h2 => ?_)
    · exact e_vret (dt dk_X8_turnHole 26 rfl) rfl rfl
    · refine e_aload_n (dt dk_X8_turnHole 6 rfl) rfl ?_
      refine e_getR ci_X8 (dt dk_X8_turnHole 7 rfl) rfl (by decide) rfl fl_X8_24 ?_
      refine e_iload_n (dt dk_X8_turnHole 8 rfl) rfl ?_
      refine e_dup2 (dt dk_X8_turnHole 9 rfl) rfl rfl ?_
      refine e_if (fun h3 => ?_)
      refine e_iald' (v := (M 6 (ix v1))) (dt dk_X8_turnHole 10 rfl) rfl h3 rfl ?_
      refine e_iconst (v := (1 : Int32)) (dt dk_X8_turnHole 11 rfl) (by decide) ?_
      refine e_iload_n (dt dk_X8_turnHole 12 rfl) rfl ?_
      refine e_ishl (dt dk_X8_turnHole 13 rfl) ?_
      refine e_ixor (dt dk_X8_turnHole 14 rfl) ?_
      refine e_if (fun h4 => ?_)
      refine e_iast' (dt dk_X8_turnHole 15 rfl) rfl h4 ?_
      refine e_aload_n (dt dk_X8_turnHole 16 rfl) rfl ?_
      refine e_getR ci_X8 (dt dk_X8_turnHole 17 rfl) rfl (by decide) rfl fl_X8_24 ?_
      refine e_iload_n (dt dk_X8_turnHole 18 rfl) rfl ?_
      refine e_dup2 (dt dk_X8_turnHole 19 rfl) rfl rfl ?_
      refine e_if (fun h5 => ?_)
      refine e_iald' (v := ((up2 M 6 (ix v1) ((M 6 (ix v1)) ^^^ ((1 : Int32) <<< (v2 &&& 31)))) 6 (ix v2))) (dt dk_X8_turnHole 20 rfl) rfl h5 rfl ?_
      refine e_iconst (v := (1 : Int32)) (dt dk_X8_turnHole 21 rfl) (by decide) ?_
      refine e_iload_n (dt dk_X8_turnHole 22 rfl) rfl ?_
      refine e_ishl (dt dk_X8_turnHole 23 rfl) ?_
      refine e_ixor (dt dk_X8_turnHole 24 rfl) ?_
      refine e_if (fun h6 => ?_)
      refine e_iast' (dt dk_X8_turnHole 25 rfl) rfl h6 ?_
      exact e_vret (dt dk_X8_turnHole 26 rfl) rfl rfl
-- X5_add_15 (W, depth 0)
def f_X5_add_15 (v1 : Int32) (M : Mem) : Option (Int32 × Mem) :=
  (if (M 15 1) < (60 : Int32) then if inb (M 15 1) 60 then some ((1 : Int32), (up2 (up2 M 16 (ix (M 15 1)) v1) 15 1 ((M 15 1) + (1 : Int32)))) else none else some ((0 : Int32), M))
set_option maxRecDepth 20000 in
set_option maxHeartbeats 2000000 in
theorem sp_X5_add_15 (v1 : Int32) (M : Mem) : SpO wI yX5_add cX5_add 2 (some .boolean) 0 [.ref 15, .int v1] M (f_X5_add_15 v1 M) := by
  refine sp_of (L := [some (.ref 15), some (.int v1)]) rfl (by decide +kernel) rfl rfl ?_
  unfold f_X5_add_15
  refine e_aload_n (dt dk_X5_add 0 rfl) rfl ?_
  refine e_getI (v := (M 15 1)) ci_X5 (dt dk_X5_add 1 rfl) rfl (by decide) rfl fl_X5_15 rfl ?_
  refine e_bipush (v := (60 : Int32)) (dt dk_X5_add 2 rfl) (by decide) ?_
  refine e_icmp_lt 11 (dt dk_X5_add 3 rfl) (by decide) (fun h1 => ?_) (fun h1 => ?_)
  · refine e_aload_n (dt dk_X5_add 6 rfl) rfl ?_
    refine e_getR ci_X5 (dt dk_X5_add 7 rfl) rfl (by decide) rfl fl_X5_9 ?_
    refine e_aload_n (dt dk_X5_add 8 rfl) rfl ?_
    refine e_getI (v := (M 15 1)) ci_X5 (dt dk_X5_add 9 rfl) rfl (by decide) rfl fl_X5_15 rfl ?_
    refine e_iload_n (dt dk_X5_add 10 rfl) rfl ?_
    refine e_if (fun h2 => ?_)
    refine e_iast' (dt dk_X5_add 11 rfl) rfl h2 ?_
    refine e_aload_n (dt dk_X5_add 12 rfl) rfl ?_
    refine e_dup (dt dk_X5_add 13 rfl) rfl ?_
    refine e_getI (v := (M 15 1)) ci_X5 (dt dk_X5_add 14 rfl) rfl (by decide) rfl fl_X5_15 rfl ?_
    refine e_iconst (v := (1 : Int32)) (dt dk_X5_add 15 rfl) (by decide) ?_
    refine e_iadd (dt dk_X5_add 16 rfl) ?_
    refine e_putI (ty := .int) ci_X5 (dt dk_X5_add 17 rfl) rfl (by decide) rfl fl_X5_15 rfl (by decide +kernel) rfl rfl ?_
    refine e_iconst (v := (1 : Int32)) (dt dk_X5_add 18 rfl) (by decide) ?_
    exact e_iret (dt dk_X5_add 19 rfl) rfl rfl rfl
  · refine e_iconst (v := (0 : Int32)) (dt dk_X5_add 4 rfl) (by decide) ?_
    exact e_iret (dt dk_X5_add 5 rfl) rfl rfl rfl
-- X9_isLetter (T, depth 1)
def fo_X9_isLetter (v0 : Int32) : Option Int32 :=
  some (f_X9_isHouse (v0 - (65 : Int32)))
def f_X9_isLetter (v0 : Int32) : Int32 :=
  (f_X9_isHouse (v0 - (65 : Int32)))
theorem fe_X9_isLetter (v0 : Int32) : fo_X9_isLetter v0 = some (f_X9_isLetter v0) := by
  unfold fo_X9_isLetter f_X9_isLetter
  simp only [apply_ite some]
theorem fb_X9_isLetter (v0 : Int32) : f_X9_isLetter v0 = 0 ∨ f_X9_isLetter v0 = 1 := by
  unfold f_X9_isLetter
  exact fb_X9_isHouse (v0 - (65 : Int32))
set_option maxRecDepth 20000 in
set_option maxHeartbeats 2000000 in
theorem sp_X9_isLetter (v0 : Int32) (M : Mem) : SpO (wR M) yX9_isLetter cX9_isLetter 1 (some .boolean) 1 [.int v0] M (some (f_X9_isLetter v0)) := by
  rw [← fe_X9_isLetter]
  refine sp_of (L := [some (.int v0)]) rfl (by decide +kernel) rfl rfl ?_
  unfold fo_X9_isLetter
  refine e_iload_n (dt dk_X9_isLetter 0 rfl) rfl ?_
  refine e_bipush (v := (65 : Int32)) (dt dk_X9_isLetter 1 rfl) (by decide) ?_
  refine e_isub (dt dk_X9_isLetter 2 rfl) ?_
  refine ev_callT (ca_S ms_X9_isHouse (sp_X9_isHouse (v0 - (65 : Int32)) M) (dt dk_X9_isLetter 3 rfl) ml_X9_75 rfl rfl rfl (by decide) : Ca _ _ _ _ _ _ _ _ [] _ _) ?_
  show Ev _ _ _ _ _ _ 7 [some (.int v0)] [.int (f_X9_isHouse (v0 - (65 : Int32)))] M _
  exact e_iret (dt dk_X9_isLetter 4 rfl) rfl (narrow_bool (fb_X9_isHouse (v0 - (65 : Int32)))) rfl
-- X5_isDeed (T, depth 0)
def fo_X5_isDeed (v0 : Int32) : Option Int32 :=
  (if v0 = (43 : Int32) then some (1 : Int32) else (if v0 = (45 : Int32) then some (1 : Int32) else (if v0 = (94 : Int32) then some (1 : Int32) else (if v0 = (95 : Int32) then some (1 : Int32) else (if v0 = (33 : Int32) then some (1 : Int32) else some (0 : Int32))))))
def f_X5_isDeed (v0 : Int32) : Int32 :=
  (if v0 = (43 : Int32) then (1 : Int32) else (if v0 = (45 : Int32) then (1 : Int32) else (if v0 = (94 : Int32) then (1 : Int32) else (if v0 = (95 : Int32) then (1 : Int32) else (if v0 = (33 : Int32) then (1 : Int32) else (0 : Int32))))))
theorem fe_X5_isDeed (v0 : Int32) : fo_X5_isDeed v0 = some (f_X5_isDeed v0) := by
  unfold fo_X5_isDeed f_X5_isDeed
  simp only [apply_ite some]
theorem fb_X5_isDeed (v0 : Int32) : f_X5_isDeed v0 = 0 ∨ f_X5_isDeed v0 = 1 := by
  unfold f_X5_isDeed
  (repeat' split) <;> first | exact Or.inl rfl | exact Or.inr rfl
set_option maxRecDepth 20000 in
set_option maxHeartbeats 2000000 in
theorem sp_X5_isDeed (v0 : Int32) (M : Mem) : SpO (wR M) yX5_isDeed cX5_isDeed 1 (some .boolean) 0 [.int v0] M (some (f_X5_isDeed v0)) := by
  rw [← fe_X5_isDeed]
  refine sp_of (L := [some (.int v0)]) rfl (by decide +kernel) rfl rfl ?_
  unfold fo_X5_isDeed
  refine e_iload_n (dt dk_X5_isDeed 0 rfl) rfl ?_
  refine e_bipush (v := (43 : Int32)) (dt dk_X5_isDeed 1 rfl) (by decide) ?_
  refine e_icmp_eq 30 (dt dk_X5_isDeed 2 rfl) (by decide) (fun h1 => ?_) (fun h1 => ?_)
  · refine e_iconst (v := (1 : Int32)) (dt dk_X5_isDeed 15 rfl) (by decide) ?_
    refine e_goto 35 (dt dk_X5_isDeed 16 rfl) (by decide) ?_
    exact e_iret (dt dk_X5_isDeed 18 rfl) rfl rfl rfl
  · refine e_iload_n (dt dk_X5_isDeed 3 rfl) rfl ?_
    refine e_bipush (v := (45 : Int32)) (dt dk_X5_isDeed 4 rfl) (by decide) ?_
    refine e_icmp_eq 30 (dt dk_X5_isDeed 5 rfl) (by decide) (fun h2 => ?_) (fun h2 => ?_)
    · refine e_iconst (v := (1 : Int32)) (dt dk_X5_isDeed 15 rfl) (by decide) ?_
      refine e_goto 35 (dt dk_X5_isDeed 16 rfl) (by decide) ?_
      exact e_iret (dt dk_X5_isDeed 18 rfl) rfl rfl rfl
    · refine e_iload_n (dt dk_X5_isDeed 6 rfl) rfl ?_
      refine e_bipush (v := (94 : Int32)) (dt dk_X5_isDeed 7 rfl) (by decide) ?_
      refine e_icmp_eq 30 (dt dk_X5_isDeed 8 rfl) (by decide) (fun h3 => ?_) (fun h3 => ?_)
      · refine e_iconst (v := (1 : Int32)) (dt dk_X5_isDeed 15 rfl) (by decide) ?_
        refine e_goto 35 (dt dk_X5_isDeed 16 rfl) (by decide) ?_
        exact e_iret (dt dk_X5_isDeed 18 rfl) rfl rfl rfl
      · refine e_iload_n (dt dk_X5_isDeed 9 rfl) rfl ?_
        refine e_bipush (v := (95 : Int32)) (dt dk_X5_isDeed 10 rfl) (by decide) ?_
        refine e_icmp_eq 30 (dt dk_X5_isDeed 11 rfl) (by decide) (fun h4 => ?_) (fun h4 => ?_)
        · refine e_iconst (v := (1 : Int32)) (dt dk_X5_isDeed 15 rfl) (by decide) ?_
          refine e_goto 35 (dt dk_X5_isDeed 16 rfl) (by decide) ?_
          exact e_iret (dt dk_X5_isDeed 18 rfl) rfl rfl rfl
        · refine e_iload_n (dt dk_X5_isDeed 12 rfl) rfl ?_
          refine e_bipush (v := (33 : Int32)) (dt dk_X5_isDeed 13 rfl) (by decide) ?_
          refine e_icmp_ne 34 (dt dk_X5_isDeed 14 rfl) (by decide) (fun h5 => ?_) (fun h5 => ?_)
          · refine e_iconst (v := (1 : Int32)) (dt dk_X5_isDeed 15 rfl) (by decide) ?_
            refine e_goto 35 (dt dk_X5_isDeed 16 rfl) (by decide) ?_
            exact e_iret (dt dk_X5_isDeed 18 rfl) rfl rfl rfl
          · refine e_iconst (v := (0 : Int32)) (dt dk_X5_isDeed 17 rfl) (by decide) ?_
            exact e_iret (dt dk_X5_isDeed 18 rfl) rfl rfl rfl
-- X5_awaitedBehind (T, depth 2)
def fo_X5_awaitedBehind (v0 : Int32) (v1 : Int32) : Option Int32 :=
  (if v1 = (0 : Int32) then (if v0 = (46 : Int32) then some (0 : Int32) else (if v0 = (111 : Int32) then some (2 : Int32) else (if (f_X9_isLetter v0) = 0 then some (4 : Int32) else some (1 : Int32)))) else if v1 = (1 : Int32) then (if (f_X5_isDeed v0) = 0 then some (4 : Int32) else some (0 : Int32)) else if v1 = (2 : Int32) then (if (f_X9_isLetter v0) = 0 then some (4 : Int32) else some (3 : Int32)) else (if (f_X9_isLetter v0) = 0 then some (4 : Int32) else some (0 : Int32)))
def f_X5_awaitedBehind (v0 : Int32) (v1 : Int32) : Int32 :=
  (if v1 = (0 : Int32) then (if v0 = (46 : Int32) then (0 : Int32) else (if v0 = (111 : Int32) then (2 : Int32) else (if (f_X9_isLetter v0) = 0 then (4 : Int32) else (1 : Int32)))) else if v1 = (1 : Int32) then (if (f_X5_isDeed v0) = 0 then (4 : Int32) else (0 : Int32)) else if v1 = (2 : Int32) then (if (f_X9_isLetter v0) = 0 then (4 : Int32) else (3 : Int32)) else (if (f_X9_isLetter v0) = 0 then (4 : Int32) else (0 : Int32)))
theorem fe_X5_awaitedBehind (v0 : Int32) (v1 : Int32) : fo_X5_awaitedBehind v0 v1 = some (f_X5_awaitedBehind v0 v1) := by
  unfold fo_X5_awaitedBehind f_X5_awaitedBehind
  simp only [apply_ite some]
set_option maxRecDepth 20000 in
set_option maxHeartbeats 2000000 in
theorem sp_X5_awaitedBehind (v0 : Int32) (v1 : Int32) (M : Mem) : SpO (wR M) yX5_awaitedBehind cX5_awaitedBehind 2 (some .int) 2 [.int v0, .int v1] M (some (f_X5_awaitedBehind v0 v1)) := by
  rw [← fe_X5_awaitedBehind]
  refine sp_of (L := [some (.int v0), some (.int v1)]) rfl (by decide +kernel) rfl rfl ?_
  unfold fo_X5_awaitedBehind
  refine e_iload_n (dt dk_X5_awaitedBehind 0 rfl) rfl ?_
  refine e_split (fun h1 => ?_) (fun h1 => ?_)
  · refine e_tableIn 28 (dt dk_X5_awaitedBehind 1 rfl) (by rw [h1]; decide) (by rw [h1]; decide) (by rw [h1]; rfl) (by decide) ?_
    refine e_iload_n (dt dk_X5_awaitedBehind 2 rfl) rfl ?_
    refine e_bipush (v := (46 : Int32)) (dt dk_X5_awaitedBehind 3 rfl) (by decide) ?_
    refine e_icmp_ne 36 (dt dk_X5_awaitedBehind 4 rfl) (by decide) (fun h2 => ?_) (fun h2 => ?_)
    · refine e_iconst (v := (0 : Int32)) (dt dk_X5_awaitedBehind 5 rfl) (by decide) ?_
      exact e_iret (dt dk_X5_awaitedBehind 6 rfl) rfl rfl rfl
    · refine e_iload_n (dt dk_X5_awaitedBehind 7 rfl) rfl ?_
      refine e_bipush (v := (111 : Int32)) (dt dk_X5_awaitedBehind 8 rfl) (by decide) ?_
      refine e_icmp_ne 44 (dt dk_X5_awaitedBehind 9 rfl) (by decide) (fun h3 => ?_) (fun h3 => ?_)
      · refine e_iconst (v := (2 : Int32)) (dt dk_X5_awaitedBehind 10 rfl) (by decide) ?_
        exact e_iret (dt dk_X5_awaitedBehind 11 rfl) rfl rfl rfl
      · refine e_iload_n (dt dk_X5_awaitedBehind 12 rfl) rfl ?_
        refine ev_callT (ca_SN ms_X9_isLetter (sp_X9_isLetter v0 M) (dt dk_X5_awaitedBehind 13 rfl) mn_X5_35 rfl rfl rfl (by decide) : Ca _ _ _ _ _ _ _ _ [] _ _) ?_
        show Ev _ _ _ _ _ _ 48 [some (.int v0), some (.int v1)] [.int (f_X9_isLetter v0)] M _
        refine e_if_eq 55 (dt dk_X5_awaitedBehind 14 rfl) (by decide) (fun h4 => ?_) (fun h4 => ?_)
        · refine e_iconst (v := (4 : Int32)) (dt dk_X5_awaitedBehind 17 rfl) (by decide) ?_
          exact e_iret (dt dk_X5_awaitedBehind 18 rfl) rfl rfl rfl
        · refine e_iconst (v := (1 : Int32)) (dt dk_X5_awaitedBehind 15 rfl) (by decide) ?_
          refine e_goto 56 (dt dk_X5_awaitedBehind 16 rfl) (by decide) ?_
          exact e_iret (dt dk_X5_awaitedBehind 18 rfl) rfl rfl rfl
  · skip
    refine e_split (fun h5 => ?_) (fun h5 => ?_)
    · refine e_tableIn 57 (dt dk_X5_awaitedBehind 1 rfl) (by rw [h5]; decide) (by rw [h5]; decide) (by rw [h5]; rfl) (by decide) ?_
      refine e_iload_n (dt dk_X5_awaitedBehind 19 rfl) rfl ?_
      refine ev_callT (ca_S ms_X5_isDeed (sp_X5_isDeed v0 M) (dt dk_X5_awaitedBehind 20 rfl) ml_X5_38 rfl rfl rfl (by decide) : Ca _ _ _ _ _ _ _ _ [] _ _) ?_
      show Ev _ _ _ _ _ _ 61 [some (.int v0), some (.int v1)] [.int (f_X5_isDeed v0)] M _
      refine e_if_eq 68 (dt dk_X5_awaitedBehind 21 rfl) (by decide) (fun h6 => ?_) (fun h6 => ?_)
      · refine e_iconst (v := (4 : Int32)) (dt dk_X5_awaitedBehind 24 rfl) (by decide) ?_
        exact e_iret (dt dk_X5_awaitedBehind 25 rfl) rfl rfl rfl
      · refine e_iconst (v := (0 : Int32)) (dt dk_X5_awaitedBehind 22 rfl) (by decide) ?_
        refine e_goto 69 (dt dk_X5_awaitedBehind 23 rfl) (by decide) ?_
        exact e_iret (dt dk_X5_awaitedBehind 25 rfl) rfl rfl rfl
    · skip
      refine e_split (fun h7 => ?_) (fun h7 => ?_)
      · refine e_tableIn 70 (dt dk_X5_awaitedBehind 1 rfl) (by rw [h7]; decide) (by rw [h7]; decide) (by rw [h7]; rfl) (by decide) ?_
        refine e_iload_n (dt dk_X5_awaitedBehind 26 rfl) rfl ?_
        refine ev_callT (ca_SN ms_X9_isLetter (sp_X9_isLetter v0 M) (dt dk_X5_awaitedBehind 27 rfl) mn_X5_35 rfl rfl rfl (by decide) : Ca _ _ _ _ _ _ _ _ [] _ _) ?_
        show Ev _ _ _ _ _ _ 74 [some (.int v0), some (.int v1)] [.int (f_X9_isLetter v0)] M _
        refine e_if_eq 81 (dt dk_X5_awaitedBehind 28 rfl) (by decide) (fun h8 => ?_) (fun h8 => ?_)
        · refine e_iconst (v := (4 : Int32)) (dt dk_X5_awaitedBehind 31 rfl) (by decide) ?_
          exact e_iret (dt dk_X5_awaitedBehind 32 rfl) rfl rfl rfl
        · refine e_iconst (v := (3 : Int32)) (dt dk_X5_awaitedBehind 29 rfl) (by decide) ?_
          refine e_goto 82 (dt dk_X5_awaitedBehind 30 rfl) (by decide) ?_
          exact e_iret (dt dk_X5_awaitedBehind 32 rfl) rfl rfl rfl
      · skip
        refine e_tableOut 83 (dt dk_X5_awaitedBehind 1 rfl) (sw_out 2 (by simp only [List.range, List.range.loop, List.all_cons, List.all_nil]; simp [h1, h5, h7])) (by decide) ?_
        refine e_iload_n (dt dk_X5_awaitedBehind 33 rfl) rfl ?_
        refine ev_callT (ca_SN ms_X9_isLetter (sp_X9_isLetter v0 M) (dt dk_X5_awaitedBehind 34 rfl) mn_X5_35 rfl rfl rfl (by decide) : Ca _ _ _ _ _ _ _ _ [] _ _) ?_
        show Ev _ _ _ _ _ _ 87 [some (.int v0), some (.int v1)] [.int (f_X9_isLetter v0)] M _
        refine e_if_eq 94 (dt dk_X5_awaitedBehind 35 rfl) (by decide) (fun h9 => ?_) (fun h9 => ?_)
        · refine e_iconst (v := (4 : Int32)) (dt dk_X5_awaitedBehind 38 rfl) (by decide) ?_
          exact e_iret (dt dk_X5_awaitedBehind 39 rfl) rfl rfl rfl
        · refine e_iconst (v := (0 : Int32)) (dt dk_X5_awaitedBehind 36 rfl) (by decide) ?_
          refine e_goto 95 (dt dk_X5_awaitedBehind 37 rfl) (by decide) ?_
          exact e_iret (dt dk_X5_awaitedBehind 39 rfl) rfl rfl rfl
-- X5_faultPlace_15 (R, depth 3)
def bd_X5_faultPlace_15_4 (M : Mem)  (K4 : Int32 → Int32 → Option Int32) (v1 : Int32) (v2 : Int32) : Option Int32 :=
  (if (M 15 1) ≤ v2 then (if v1 = 0 then some (-6 : Int32) else some (M 15 1)) else if inb v2 60 then (if (f_X5_awaitedBehind (M 16 (ix v2)) v1) = (4 : Int32) then some v2 else (K4 (f_X5_awaitedBehind (M 16 (ix v2)) v1) (v2 + (1 : Int32)))) else none)
set_option maxRecDepth 20000 in
set_option maxHeartbeats 2000000 in
theorem ev_bd_X5_faultPlace_15_4 (M : Mem)  (K4 : Int32 → Int32 → Option Int32)  (hK4 : ∀ (v1 : Int32) (v2 : Int32), Ev none (wR M) RX5 cX5_faultPlace (some .int) 3 4 [some (.ref 15), some (.int v1), some (.int v2)] [] M (K4 v1 v2)) (v1 : Int32) (v2 : Int32) : Ev none (wR M) RX5 cX5_faultPlace (some .int) 3 4 [some (.ref 15), some (.int v1), some (.int v2)] [] M (bd_X5_faultPlace_15_4 M K4 v1 v2) := by
  unfold bd_X5_faultPlace_15_4
  refine e_iload_n (dt dk_X5_faultPlace 4 rfl) rfl ?_
  refine e_aload_n (dt dk_X5_faultPlace 5 rfl) rfl ?_
  refine e_getI (v := (M 15 1)) ci_X5 (dt dk_X5_faultPlace 6 rfl) rfl (by decide) rfl fl_X5_15 rfl ?_
  refine e_icmp_ge 36 (dt dk_X5_faultPlace 7 rfl) (by decide) (fun h1 => ?_) (fun h1 => ?_)
  · refine e_iload_n (dt dk_X5_faultPlace 22 rfl) rfl ?_
    refine e_if_ne 45 (dt dk_X5_faultPlace 23 rfl) (by decide) (fun h2 => ?_) (fun h2 => ?_)
    · refine e_bipush (v := (-6 : Int32)) (dt dk_X5_faultPlace 24 rfl) (by decide) ?_
      refine e_goto 49 (dt dk_X5_faultPlace 25 rfl) (by decide) ?_
      exact e_iret (dt dk_X5_faultPlace 28 rfl) rfl rfl rfl
    · refine e_aload_n (dt dk_X5_faultPlace 26 rfl) rfl ?_
      refine e_getI (v := (M 15 1)) ci_X5 (dt dk_X5_faultPlace 27 rfl) rfl (by decide) rfl fl_X5_15 rfl ?_
      exact e_iret (dt dk_X5_faultPlace 28 rfl) rfl rfl rfl
  · refine e_aload_n (dt dk_X5_faultPlace 8 rfl) rfl ?_
    refine e_getR ci_X5 (dt dk_X5_faultPlace 9 rfl) rfl (by decide) rfl fl_X5_9 ?_
    refine e_iload_n (dt dk_X5_faultPlace 10 rfl) rfl ?_
    refine e_if (fun h3 => ?_)
    refine e_iald' (v := (M 16 (ix v2))) (dt dk_X5_faultPlace 11 rfl) rfl h3 rfl ?_
    refine e_iload_n (dt dk_X5_faultPlace 12 rfl) rfl ?_
    refine ev_callT (ca_S ms_X5_awaitedBehind (sp_X5_awaitedBehind (M 16 (ix v2)) v1 M) (dt dk_X5_faultPlace 13 rfl) ml_X5_31 rfl rfl rfl (by decide) : Ca _ _ _ _ _ _ _ _ [] _ _) ?_
    show Ev _ _ _ _ _ _ 22 [some (.ref 15), some (.int v1), some (.int v2)] [.int (f_X5_awaitedBehind (M 16 (ix v2)) v1)] M _
    refine e_istore_n [some (.ref 15), some (.int (f_X5_awaitedBehind (M 16 (ix v2)) v1)), some (.int v2)] (dt dk_X5_faultPlace 14 rfl) rfl rfl rfl ?_
    refine e_iload_n (dt dk_X5_faultPlace 15 rfl) rfl ?_
    refine e_iconst (v := (4 : Int32)) (dt dk_X5_faultPlace 16 rfl) (by decide) ?_
    refine e_icmp_ne 30 (dt dk_X5_faultPlace 17 rfl) (by decide) (fun h4 => ?_) (fun h4 => ?_)
    · refine e_iload_n (dt dk_X5_faultPlace 18 rfl) rfl ?_
      exact e_iret (dt dk_X5_faultPlace 19 rfl) rfl rfl rfl
    · refine e_iinc [some (.ref 15), some (.int (f_X5_awaitedBehind (M 16 (ix v2)) v1)), some (.int (v2 + (1 : Int32)))] (dt dk_X5_faultPlace 20 rfl) rfl rfl rfl rfl ?_
      refine e_goto 4 (dt dk_X5_faultPlace 21 rfl) (by decide) ?_
      exact e_forget [true, true, true] [some (.ref 15), some (.int (f_X5_awaitedBehind (M 16 (ix v2)) v1)), some (.int (v2 + (1 : Int32)))] ⟨rfl, rfl⟩ (hK4 (f_X5_awaitedBehind (M 16 (ix v2)) v1) (v2 + (1 : Int32)))
def lp_X5_faultPlace_15_4 (M : Mem)  : Nat → Int32 → Int32 → Option Int32
  | 0 => fun _ _ => none
  | n + 1 => bd_X5_faultPlace_15_4 M (lp_X5_faultPlace_15_4 M n)
theorem ev_lp_X5_faultPlace_15_4 (M : Mem)   : ∀ (n : Nat), ∀ (v1 : Int32) (v2 : Int32), Ev none (wR M) RX5 cX5_faultPlace (some .int) 3 4 [some (.ref 15), some (.int v1), some (.int v2)] [] M (lp_X5_faultPlace_15_4 M n v1 v2)
  | 0 => fun _ _ => e_none
  | n + 1 => ev_bd_X5_faultPlace_15_4 M (lp_X5_faultPlace_15_4 M n) (ev_lp_X5_faultPlace_15_4 M n)
def f_X5_faultPlace_15  (M : Mem) : Option Int32 :=
  (lp_X5_faultPlace_15_4 M FU (0 : Int32) (0 : Int32))
set_option maxRecDepth 20000 in
set_option maxHeartbeats 2000000 in
theorem sp_X5_faultPlace_15  (M : Mem) : SpO (wR M) yX5_faultPlace cX5_faultPlace 3 (some .int) 3 [.ref 15] M (f_X5_faultPlace_15 M) := by
  refine sp_of (L := [some (.ref 15), none, none]) rfl (by decide +kernel) rfl rfl ?_
  unfold f_X5_faultPlace_15
  refine e_iconst (v := (0 : Int32)) (dt dk_X5_faultPlace 0 rfl) (by decide) ?_
  refine e_istore_n [some (.ref 15), some (.int (0 : Int32)), none] (dt dk_X5_faultPlace 1 rfl) rfl rfl rfl ?_
  refine e_iconst (v := (0 : Int32)) (dt dk_X5_faultPlace 2 rfl) (by decide) ?_
  refine e_istore_n [some (.ref 15), some (.int (0 : Int32)), some (.int (0 : Int32))] (dt dk_X5_faultPlace 3 rfl) rfl rfl rfl ?_
  exact e_forget [true, true, true] [some (.ref 15), some (.int (0 : Int32)), some (.int (0 : Int32))] ⟨rfl, rfl⟩ (ev_lp_X5_faultPlace_15_4 M FU (0 : Int32) (0 : Int32))
-- X8_become_8_1 (W, depth 1)
def f_X8_become_8_1  (M : Mem) : Option Mem :=
  some (up2 (up2 (up2 (upA (upA (upA (upA (upA M 9 (va_cpy (M 2) (M 9) 0 0 8)) 10 (va_cpy (M 3) (M 10) 0 0 8)) 11 (va_cpy (M 4) (M 11) 0 0 8)) 12 (va_cpy (M 5) (M 12) 0 0 8)) 13 (va_cpy (M 6) (M 13) 0 0 8)) 8 6 (M 1 6)) 8 7 (M 1 7)) 8 8 (M 1 8))
set_option maxRecDepth 20000 in
set_option maxHeartbeats 2000000 in
theorem sp_X8_become_8_1  (M : Mem) : SpO wV yX8_become cX8_become 2 none 1 [.ref 8, .ref 1] M (f_X8_become_8_1 M) := by
  refine sp_of (L := [some (.ref 8), some (.ref 1)]) rfl (by decide +kernel) rfl rfl ?_
  unfold f_X8_become_8_1
  refine e_aload_n (dt dk_X8_become 0 rfl) rfl ?_
  refine e_getR ci_X8 (dt dk_X8_become 1 rfl) rfl (by decide) rfl fl_X8_9 ?_
  refine e_iconst (v := (0 : Int32)) (dt dk_X8_become 2 rfl) (by decide) ?_
  refine e_aload_n (dt dk_X8_become 3 rfl) rfl ?_
  refine e_getR ci_X8 (dt dk_X8_become 4 rfl) rfl (by decide) rfl fl_X8_9 ?_
  refine e_iconst (v := (0 : Int32)) (dt dk_X8_become 5 rfl) (by decide) ?_
  refine e_bipush (v := (8 : Int32)) (dt dk_X8_become 6 rfl) (by decide) ?_
  refine e_copy ok_copy (dt dk_X8_become 7 rfl) ml_X8_34 rfl rfl (by decide) (by decide) (by decide) (by decide) (by decide) rfl (by decide) ?_
  show Ev _ _ _ _ _ _ 15 [some (.ref 8), some (.ref 1)] [] (upA M 9 (va_cpy (M 2) (M 9) 0 0 8)) _
  refine e_aload_n (dt dk_X8_become 8 rfl) rfl ?_
  refine e_getR ci_X8 (dt dk_X8_become 9 rfl) rfl (by decide) rfl fl_X8_15 ?_
  refine e_iconst (v := (0 : Int32)) (dt dk_X8_become 10 rfl) (by decide) ?_
  refine e_aload_n (dt dk_X8_become 11 rfl) rfl ?_
  refine e_getR ci_X8 (dt dk_X8_become 12 rfl) rfl (by decide) rfl fl_X8_15 ?_
  refine e_iconst (v := (0 : Int32)) (dt dk_X8_become 13 rfl) (by decide) ?_
  refine e_bipush (v := (8 : Int32)) (dt dk_X8_become 14 rfl) (by decide) ?_
  refine e_copy ok_copy (dt dk_X8_become 15 rfl) ml_X8_34 rfl rfl (by decide) (by decide) (by decide) (by decide) (by decide) rfl (by decide) ?_
  show Ev _ _ _ _ _ _ 30 [some (.ref 8), some (.ref 1)] [] (upA (upA M 9 (va_cpy (M 2) (M 9) 0 0 8)) 10 (va_cpy (M 3) (M 10) 0 0 8)) _
  refine e_aload_n (dt dk_X8_become 16 rfl) rfl ?_
  refine e_getR ci_X8 (dt dk_X8_become 17 rfl) rfl (by decide) rfl fl_X8_18 ?_
  refine e_iconst (v := (0 : Int32)) (dt dk_X8_become 18 rfl) (by decide) ?_
  refine e_aload_n (dt dk_X8_become 19 rfl) rfl ?_
  refine e_getR ci_X8 (dt dk_X8_become 20 rfl) rfl (by decide) rfl fl_X8_18 ?_
  refine e_iconst (v := (0 : Int32)) (dt dk_X8_become 21 rfl) (by decide) ?_
  refine e_bipush (v := (8 : Int32)) (dt dk_X8_become 22 rfl) (by decide) ?_
  refine e_copy ok_copy (dt dk_X8_become 23 rfl) ml_X8_34 rfl rfl (by decide) (by decide) (by decide) (by decide) (by decide) rfl (by decide) ?_
  show Ev _ _ _ _ _ _ 45 [some (.ref 8), some (.ref 1)] [] (upA (upA (upA M 9 (va_cpy (M 2) (M 9) 0 0 8)) 10 (va_cpy (M 3) (M 10) 0 0 8)) 11 (va_cpy (M 4) (M 11) 0 0 8)) _
  refine e_aload_n (dt dk_X8_become 24 rfl) rfl ?_
  refine e_getR ci_X8 (dt dk_X8_become 25 rfl) rfl (by decide) rfl fl_X8_21 ?_
  refine e_iconst (v := (0 : Int32)) (dt dk_X8_become 26 rfl) (by decide) ?_
  refine e_aload_n (dt dk_X8_become 27 rfl) rfl ?_
  refine e_getR ci_X8 (dt dk_X8_become 28 rfl) rfl (by decide) rfl fl_X8_21 ?_
  refine e_iconst (v := (0 : Int32)) (dt dk_X8_become 29 rfl) (by decide) ?_
  refine e_bipush (v := (8 : Int32)) (dt dk_X8_become 30 rfl) (by decide) ?_
  refine e_copy ok_copy (dt dk_X8_become 31 rfl) ml_X8_34 rfl rfl (by decide) (by decide) (by decide) (by decide) (by decide) rfl (by decide) ?_
  show Ev _ _ _ _ _ _ 60 [some (.ref 8), some (.ref 1)] [] (upA (upA (upA (upA M 9 (va_cpy (M 2) (M 9) 0 0 8)) 10 (va_cpy (M 3) (M 10) 0 0 8)) 11 (va_cpy (M 4) (M 11) 0 0 8)) 12 (va_cpy (M 5) (M 12) 0 0 8)) _
  refine e_aload_n (dt dk_X8_become 32 rfl) rfl ?_
  refine e_getR ci_X8 (dt dk_X8_become 33 rfl) rfl (by decide) rfl fl_X8_24 ?_
  refine e_iconst (v := (0 : Int32)) (dt dk_X8_become 34 rfl) (by decide) ?_
  refine e_aload_n (dt dk_X8_become 35 rfl) rfl ?_
  refine e_getR ci_X8 (dt dk_X8_become 36 rfl) rfl (by decide) rfl fl_X8_24 ?_
  refine e_iconst (v := (0 : Int32)) (dt dk_X8_become 37 rfl) (by decide) ?_
  refine e_bipush (v := (8 : Int32)) (dt dk_X8_become 38 rfl) (by decide) ?_
  refine e_copy ok_copy (dt dk_X8_become 39 rfl) ml_X8_34 rfl rfl (by decide) (by decide) (by decide) (by decide) (by decide) rfl (by decide) ?_
  show Ev _ _ _ _ _ _ 75 [some (.ref 8), some (.ref 1)] [] (upA (upA (upA (upA (upA M 9 (va_cpy (M 2) (M 9) 0 0 8)) 10 (va_cpy (M 3) (M 10) 0 0 8)) 11 (va_cpy (M 4) (M 11) 0 0 8)) 12 (va_cpy (M 5) (M 12) 0 0 8)) 13 (va_cpy (M 6) (M 13) 0 0 8)) _
  refine e_aload_n (dt dk_X8_become 40 rfl) rfl ?_
  refine e_aload_n (dt dk_X8_become 41 rfl) rfl ?_
  refine e_getI (v := (M 1 6)) ci_X8 (dt dk_X8_become 42 rfl) rfl (by decide) rfl fl_X8_30 rfl ?_
  refine e_putI (ty := .int) ci_X8 (dt dk_X8_become 43 rfl) rfl (by decide) rfl fl_X8_30 rfl (by decide +kernel) rfl rfl ?_
  refine e_aload_n (dt dk_X8_become 44 rfl) rfl ?_
  refine e_aload_n (dt dk_X8_become 45 rfl) rfl ?_
  refine e_getI (v := (M 1 7)) ci_X8 (dt dk_X8_become 46 rfl) rfl (by decide) rfl fl_X8_40 rfl ?_
  refine e_putI (ty := .int) ci_X8 (dt dk_X8_become 47 rfl) rfl (by decide) rfl fl_X8_40 rfl (by decide +kernel) rfl rfl ?_
  refine e_aload_n (dt dk_X8_become 48 rfl) rfl ?_
  refine e_aload_n (dt dk_X8_become 49 rfl) rfl ?_
  refine e_getI (v := (M 1 8)) ci_X8 (dt dk_X8_become 50 rfl) rfl (by decide) rfl fl_X8_43 rfl ?_
  refine e_putI (ty := .int) ci_X8 (dt dk_X8_become 51 rfl) rfl (by decide) rfl fl_X8_43 rfl (by decide +kernel) rfl rfl ?_
  exact e_vret (dt dk_X8_become 52 rfl) rfl rfl
-- X8_clearHouses_8 (R, depth 0)
def bd_X8_clearHouses_8_4 (M : Mem)  (K4 : Int32 → Int32 → Option Int32) (v1 : Int32) (v2 : Int32) : Option Int32 :=
  (if (8 : Int32) ≤ v2 then some v1 else if inb v2 8 then (if (M 9 (ix v2)) = 0 then (K4 (v1 ||| ((1 : Int32) <<< (v2 &&& 31))) (v2 + (1 : Int32))) else (K4 v1 (v2 + (1 : Int32)))) else none)
set_option maxRecDepth 20000 in
set_option maxHeartbeats 2000000 in
theorem ev_bd_X8_clearHouses_8_4 (M : Mem)  (K4 : Int32 → Int32 → Option Int32)  (hK4 : ∀ (v1 : Int32) (v2 : Int32), Ev none (wR M) RX8 cX8_clearHouses (some .int) 0 4 [some (.ref 8), some (.int v1), some (.int v2)] [] M (K4 v1 v2)) (v1 : Int32) (v2 : Int32) : Ev none (wR M) RX8 cX8_clearHouses (some .int) 0 4 [some (.ref 8), some (.int v1), some (.int v2)] [] M (bd_X8_clearHouses_8_4 M K4 v1 v2) := by
  unfold bd_X8_clearHouses_8_4
  refine e_iload_n (dt dk_X8_clearHouses 4 rfl) rfl ?_
  refine e_bipush (v := (8 : Int32)) (dt dk_X8_clearHouses 5 rfl) (by decide) ?_
  refine e_icmp_ge 31 (dt dk_X8_clearHouses 6 rfl) (by decide) (fun h1 => ?_) (fun h1 => ?_)
  · refine e_iload_n (dt dk_X8_clearHouses 20 rfl) rfl ?_
    exact e_iret (dt dk_X8_clearHouses 21 rfl) rfl rfl rfl
  · refine e_aload_n (dt dk_X8_clearHouses 7 rfl) rfl ?_
    refine e_getR ci_X8 (dt dk_X8_clearHouses 8 rfl) rfl (by decide) rfl fl_X8_9 ?_
    refine e_iload_n (dt dk_X8_clearHouses 9 rfl) rfl ?_
    refine e_if (fun h2 => ?_)
    refine e_iald' (v := (M 9 (ix v2))) (dt dk_X8_clearHouses 10 rfl) rfl h2 rfl ?_
    refine e_if_ne 25 (dt dk_X8_clearHouses 11 rfl) (by decide) (fun h3 => ?_) (fun h3 => ?_)
    · refine e_iload_n (dt dk_X8_clearHouses 12 rfl) rfl ?_
      refine e_iconst (v := (1 : Int32)) (dt dk_X8_clearHouses 13 rfl) (by decide) ?_
      refine e_iload_n (dt dk_X8_clearHouses 14 rfl) rfl ?_
      refine e_ishl (dt dk_X8_clearHouses 15 rfl) ?_
      refine e_ior (dt dk_X8_clearHouses 16 rfl) ?_
      refine e_istore_n [some (.ref 8), some (.int (v1 ||| ((1 : Int32) <<< (v2 &&& 31)))), some (.int v2)] (dt dk_X8_clearHouses 17 rfl) rfl rfl rfl ?_
      refine e_iinc [some (.ref 8), some (.int (v1 ||| ((1 : Int32) <<< (v2 &&& 31)))), some (.int (v2 + (1 : Int32)))] (dt dk_X8_clearHouses 18 rfl) rfl rfl rfl rfl ?_
      refine e_goto 4 (dt dk_X8_clearHouses 19 rfl) (by decide) ?_
      exact e_forget [true, true, true] [some (.ref 8), some (.int (v1 ||| ((1 : Int32) <<< (v2 &&& 31)))), some (.int (v2 + (1 : Int32)))] ⟨rfl, rfl⟩ (hK4 (v1 ||| ((1 : Int32) <<< (v2 &&& 31))) (v2 + (1 : Int32)))
    · refine e_iinc [some (.ref 8), some (.int v1), some (.int (v2 + (1 : Int32)))] (dt dk_X8_clearHouses 18 rfl) rfl rfl rfl rfl ?_
      refine e_goto 4 (dt dk_X8_clearHouses 19 rfl) (by decide) ?_
      exact e_forget [true, true, true] [some (.ref 8), some (.int v1), some (.int (v2 + (1 : Int32)))] ⟨rfl, rfl⟩ (hK4 v1 (v2 + (1 : Int32)))
def lp_X8_clearHouses_8_4 (M : Mem)  : Nat → Int32 → Int32 → Option Int32
  | 0 => fun _ _ => none
  | n + 1 => bd_X8_clearHouses_8_4 M (lp_X8_clearHouses_8_4 M n)
theorem ev_lp_X8_clearHouses_8_4 (M : Mem)   : ∀ (n : Nat), ∀ (v1 : Int32) (v2 : Int32), Ev none (wR M) RX8 cX8_clearHouses (some .int) 0 4 [some (.ref 8), some (.int v1), some (.int v2)] [] M (lp_X8_clearHouses_8_4 M n v1 v2)
  | 0 => fun _ _ => e_none
  | n + 1 => ev_bd_X8_clearHouses_8_4 M (lp_X8_clearHouses_8_4 M n) (ev_lp_X8_clearHouses_8_4 M n)
def f_X8_clearHouses_8  (M : Mem) : Option Int32 :=
  (lp_X8_clearHouses_8_4 M FU (0 : Int32) (0 : Int32))
set_option maxRecDepth 20000 in
set_option maxHeartbeats 2000000 in
theorem sp_X8_clearHouses_8  (M : Mem) : SpO (wR M) yX8_clearHouses cX8_clearHouses 3 (some .int) 0 [.ref 8] M (f_X8_clearHouses_8 M) := by
  refine sp_of (L := [some (.ref 8), none, none]) rfl (by decide +kernel) rfl rfl ?_
  unfold f_X8_clearHouses_8
  refine e_iconst (v := (0 : Int32)) (dt dk_X8_clearHouses 0 rfl) (by decide) ?_
  refine e_istore_n [some (.ref 8), some (.int (0 : Int32)), none] (dt dk_X8_clearHouses 1 rfl) rfl rfl rfl ?_
  refine e_iconst (v := (0 : Int32)) (dt dk_X8_clearHouses 2 rfl) (by decide) ?_
  refine e_istore_n [some (.ref 8), some (.int (0 : Int32)), some (.int (0 : Int32))] (dt dk_X8_clearHouses 3 rfl) rfl rfl rfl ?_
  exact e_forget [true, true, true] [some (.ref 8), some (.int (0 : Int32)), some (.int (0 : Int32))] ⟨rfl, rfl⟩ (ev_lp_X8_clearHouses_8_4 M FU (0 : Int32) (0 : Int32))
-- X5_signAt_15 (R, depth 1)
def f_X5_signAt_15 (v1 : Int32) (M : Mem) : Option Int32 :=
  (if (f_X9_within v1 (0 : Int32) ((M 15 1) - (1 : Int32))) = 0 then some (0 : Int32) else if inb v1 60 then some (M 16 (ix v1)) else none)
set_option maxRecDepth 20000 in
set_option maxHeartbeats 2000000 in
theorem sp_X5_signAt_15 (v1 : Int32) (M : Mem) : SpO (wR M) yX5_signAt cX5_signAt 2 (some .int) 1 [.ref 15, .int v1] M (f_X5_signAt_15 v1 M) := by
  refine sp_of (L := [some (.ref 15), some (.int v1)]) rfl (by decide +kernel) rfl rfl ?_
  unfold f_X5_signAt_15
  refine e_iload_n (dt dk_X5_signAt 0 rfl) rfl ?_
  refine e_iconst (v := (0 : Int32)) (dt dk_X5_signAt 1 rfl) (by decide) ?_
  refine e_aload_n (dt dk_X5_signAt 2 rfl) rfl ?_
  refine e_getI (v := (M 15 1)) ci_X5 (dt dk_X5_signAt 3 rfl) rfl (by decide) rfl fl_X5_15 rfl ?_
  refine e_iconst (v := (1 : Int32)) (dt dk_X5_signAt 4 rfl) (by decide) ?_
  refine e_isub (dt dk_X5_signAt 5 rfl) ?_
  refine ev_callT (ca_SN ms_X9_within (sp_X9_within v1 (0 : Int32) ((M 15 1) - (1 : Int32)) M) (dt dk_X5_signAt 6 rfl) mn_X5_19 rfl rfl rfl (by decide) : Ca _ _ _ _ _ _ _ _ [] _ _) ?_
  show Ev _ _ _ _ _ _ 11 [some (.ref 15), some (.int v1)] [.int (f_X9_within v1 (0 : Int32) ((M 15 1) - (1 : Int32)))] M _
  refine e_if_eq 23 (dt dk_X5_signAt 7 rfl) (by decide) (fun h1 => ?_) (fun h1 => ?_)
  · refine e_iconst (v := (0 : Int32)) (dt dk_X5_signAt 13 rfl) (by decide) ?_
    exact e_iret (dt dk_X5_signAt 14 rfl) rfl rfl rfl
  · refine e_aload_n (dt dk_X5_signAt 8 rfl) rfl ?_
    refine e_getR ci_X5 (dt dk_X5_signAt 9 rfl) rfl (by decide) rfl fl_X5_9 ?_
    refine e_iload_n (dt dk_X5_signAt 10 rfl) rfl ?_
    refine e_if (fun h2 => ?_)
    refine e_iald' (v := (M 16 (ix v1))) (dt dk_X5_signAt 11 rfl) rfl h2 rfl ?_
    refine e_goto 24 (dt dk_X5_signAt 12 rfl) (by decide) ?_
    exact e_iret (dt dk_X5_signAt 14 rfl) rfl rfl rfl
-- X5_houseAt_15 (R, depth 2)
def f_X5_houseAt_15 (v1 : Int32) (M : Mem) : Option Int32 :=
  ((f_X5_signAt_15 v1 M)).bind fun r1 => (if (f_X9_isHouse (r1 - (65 : Int32))) = 0 then some (0 : Int32) else some (r1 - (65 : Int32)))
set_option maxRecDepth 20000 in
set_option maxHeartbeats 2000000 in
theorem sp_X5_houseAt_15 (v1 : Int32) (M : Mem) : SpO (wR M) yX5_houseAt cX5_houseAt 3 (some .int) 2 [.ref 15, .int v1] M (f_X5_houseAt_15 v1 M) := by
  refine sp_of (L := [some (.ref 15), some (.int v1), none]) rfl (by decide +kernel) rfl rfl ?_
  unfold f_X5_houseAt_15
  refine e_aload_n (dt dk_X5_houseAt 0 rfl) rfl ?_
  refine e_iload_n (dt dk_X5_houseAt 1 rfl) rfl ?_
  refine ev_call (ca_V (k := 15) mv_X5_signAt (sp_X5_signAt_15 v1 M) (dt dk_X5_houseAt 2 rfl) ml_X5_23 rfl rfl rfl rfl rfl (by decide) : Ca _ _ _ _ _ _ _ _ [] _ _) (fun r1 hr1 => ?_)
  show Ev _ _ _ _ _ _ 5 [some (.ref 15), some (.int v1), none] [.int r1] M _
  refine e_bipush (v := (65 : Int32)) (dt dk_X5_houseAt 3 rfl) (by decide) ?_
  refine e_isub (dt dk_X5_houseAt 4 rfl) ?_
  refine e_istore_n [some (.ref 15), some (.int v1), some (.int (r1 - (65 : Int32)))] (dt dk_X5_houseAt 5 rfl) rfl rfl rfl ?_
  refine e_iload_n (dt dk_X5_houseAt 6 rfl) rfl ?_
  refine ev_callT (ca_SN ms_X9_isHouse (sp_X9_isHouse (r1 - (65 : Int32)) M) (dt dk_X5_houseAt 7 rfl) mn_X5_27 rfl rfl rfl (by decide) : Ca _ _ _ _ _ _ _ _ [] _ _) ?_
  show Ev _ _ _ _ _ _ 13 [some (.ref 15), some (.int v1), some (.int (r1 - (65 : Int32)))] [.int (f_X9_isHouse (r1 - (65 : Int32)))] M _
  refine e_if_eq 20 (dt dk_X5_houseAt 8 rfl) (by decide) (fun h2 => ?_) (fun h2 => ?_)
  · refine e_iconst (v := (0 : Int32)) (dt dk_X5_houseAt 11 rfl) (by decide) ?_
    exact e_iret (dt dk_X5_houseAt 12 rfl) rfl rfl rfl
  · refine e_iload_n (dt dk_X5_houseAt 9 rfl) rfl ?_
    refine e_goto 21 (dt dk_X5_houseAt 10 rfl) (by decide) ?_
    exact e_iret (dt dk_X5_houseAt 12 rfl) rfl rfl rfl
-- X0_read_17_15 (W, depth 3)
def f_X0_read_17_15 (v2 : Int32) (M : Mem) : Option (Int32 × Mem) :=
  ((f_X5_signAt_15 v2 M)).bind fun r1 => (if r1 = (46 : Int32) then some ((v2 + (1 : Int32)), (up2 (up2 (up2 M 17 0 r1) 17 1 (0 : Int32)) 17 2 (0 : Int32))) else (if r1 = (111 : Int32) then ((f_X5_houseAt_15 (v2 + (1 : Int32)) (up2 (up2 (up2 M 17 0 r1) 17 1 (0 : Int32)) 17 2 (0 : Int32)))).bind fun r6 => ((f_X5_houseAt_15 (v2 + (2 : Int32)) (up2 (up2 (up2 (up2 M 17 0 r1) 17 1 (0 : Int32)) 17 2 (0 : Int32)) 17 1 r6))).bind fun r7 => some ((v2 + (3 : Int32)), (up2 (up2 (up2 (up2 (up2 M 17 0 r1) 17 1 (0 : Int32)) 17 2 (0 : Int32)) 17 1 r6) 17 2 r7)) else ((f_X5_houseAt_15 v2 (up2 (up2 (up2 M 17 0 r1) 17 1 (0 : Int32)) 17 2 (0 : Int32)))).bind fun r4 => ((f_X5_signAt_15 (v2 + (1 : Int32)) (up2 (up2 (up2 (up2 M 17 0 r1) 17 1 (0 : Int32)) 17 2 (0 : Int32)) 17 1 r4))).bind fun r5 => some ((v2 + (2 : Int32)), (up2 (up2 (up2 (up2 (up2 M 17 0 r1) 17 1 (0 : Int32)) 17 2 (0 : Int32)) 17 1 r4) 17 0 r5))))
set_option maxRecDepth 20000 in
set_option maxHeartbeats 2000000 in
theorem sp_X0_read_17_15 (v2 : Int32) (M : Mem) : SpO wI yX0_read cX0_read 4 (some .int) 3 [.ref 17, .ref 15, .int v2] M (f_X0_read_17_15 v2 M) := by
  refine sp_of (L := [some (.ref 17), some (.ref 15), some (.int v2), none]) rfl (by decide +kernel) rfl rfl ?_
  unfold f_X0_read_17_15
  refine e_aload_n (dt dk_X0_read 0 rfl) rfl ?_
  refine e_iload_n (dt dk_X0_read 1 rfl) rfl ?_
  refine ev_call (ca_V (k := 15) mv_X5_signAt (sp_X5_signAt_15 v2 M) (dt dk_X0_read 2 rfl) ml_X0_9 rfl rfl rfl rfl rfl (by decide) : Ca _ _ _ _ _ _ _ _ [] _ _) (fun r1 hr1 => ?_)
  show Ev _ _ _ _ _ _ 5 [some (.ref 17), some (.ref 15), some (.int v2), none] [.int r1] M _
  refine e_istore_n [some (.ref 17), some (.ref 15), some (.int v2), some (.int r1)] (dt dk_X0_read 3 rfl) rfl rfl rfl ?_
  refine e_aload_n (dt dk_X0_read 4 rfl) rfl ?_
  refine e_iload_n (dt dk_X0_read 5 rfl) rfl ?_
  refine e_putI (ty := .int) ci_X0 (dt dk_X0_read 6 rfl) rfl (by decide) rfl fl_X0_15 rfl (by decide +kernel) rfl rfl ?_
  refine e_aload_n (dt dk_X0_read 7 rfl) rfl ?_
  refine e_iconst (v := (0 : Int32)) (dt dk_X0_read 8 rfl) (by decide) ?_
  refine e_putI (ty := .int) ci_X0 (dt dk_X0_read 9 rfl) rfl (by decide) rfl fl_X0_21 rfl (by decide +kernel) rfl rfl ?_
  refine e_aload_n (dt dk_X0_read 10 rfl) rfl ?_
  refine e_iconst (v := (0 : Int32)) (dt dk_X0_read 11 rfl) (by decide) ?_
  refine e_putI (ty := .int) ci_X0 (dt dk_X0_read 12 rfl) rfl (by decide) rfl fl_X0_24 rfl (by decide +kernel) rfl rfl ?_
  refine e_iload_n (dt dk_X0_read 13 rfl) rfl ?_
  refine e_bipush (v := (46 : Int32)) (dt dk_X0_read 14 rfl) (by decide) ?_
  refine e_icmp_ne 31 (dt dk_X0_read 15 rfl) (by decide) (fun h2 => ?_) (fun h2 => ?_)
  · refine e_iload_n (dt dk_X0_read 16 rfl) rfl ?_
    refine e_iconst (v := (1 : Int32)) (dt dk_X0_read 17 rfl) (by decide) ?_
    refine e_iadd (dt dk_X0_read 18 rfl) ?_
    exact e_iret (dt dk_X0_read 19 rfl) rfl rfl rfl
  · refine e_iload_n (dt dk_X0_read 20 rfl) rfl ?_
    refine e_bipush (v := (111 : Int32)) (dt dk_X0_read 21 rfl) (by decide) ?_
    refine e_icmp_ne 63 (dt dk_X0_read 22 rfl) (by decide) (fun h3 => ?_) (fun h3 => ?_)
    · refine e_aload_n (dt dk_X0_read 23 rfl) rfl ?_
      refine e_aload_n (dt dk_X0_read 24 rfl) rfl ?_
      refine e_iload_n (dt dk_X0_read 25 rfl) rfl ?_
      refine e_iconst (v := (1 : Int32)) (dt dk_X0_read 26 rfl) (by decide) ?_
      refine e_iadd (dt dk_X0_read 27 rfl) ?_
      refine ev_call (ca_V (k := 15) mv_X5_houseAt (sp_X5_houseAt_15 (v2 + (1 : Int32)) (up2 (up2 (up2 M 17 0 r1) 17 1 (0 : Int32)) 17 2 (0 : Int32))) (dt dk_X0_read 28 rfl) ml_X0_27 rfl rfl rfl rfl rfl (by decide) : Ca _ _ _ _ _ _ _ _ [.ref 17] _ _) (fun r6 hr6 => ?_)
      show Ev _ _ _ _ _ _ 45 [some (.ref 17), some (.ref 15), some (.int v2), some (.int r1)] [.int r6, .ref 17] (up2 (up2 (up2 M 17 0 r1) 17 1 (0 : Int32)) 17 2 (0 : Int32)) _
      refine e_putI (ty := .int) ci_X0 (dt dk_X0_read 29 rfl) rfl (by decide) rfl fl_X0_21 rfl (by decide +kernel) rfl rfl ?_
      refine e_aload_n (dt dk_X0_read 30 rfl) rfl ?_
      refine e_aload_n (dt dk_X0_read 31 rfl) rfl ?_
      refine e_iload_n (dt dk_X0_read 32 rfl) rfl ?_
      refine e_iconst (v := (2 : Int32)) (dt dk_X0_read 33 rfl) (by decide) ?_
      refine e_iadd (dt dk_X0_read 34 rfl) ?_
      refine ev_call (ca_V (k := 15) mv_X5_houseAt (sp_X5_houseAt_15 (v2 + (2 : Int32)) (up2 (up2 (up2 (up2 M 17 0 r1) 17 1 (0 : Int32)) 17 2 (0 : Int32)) 17 1 r6)) (dt dk_X0_read 35 rfl) ml_X0_27 rfl rfl rfl rfl rfl (by decide) : Ca _ _ _ _ _ _ _ _ [.ref 17] _ _) (fun r7 hr7 => ?_)
      show Ev _ _ _ _ _ _ 56 [some (.ref 17), some (.ref 15), some (.int v2), some (.int r1)] [.int r7, .ref 17] (up2 (up2 (up2 (up2 M 17 0 r1) 17 1 (0 : Int32)) 17 2 (0 : Int32)) 17 1 r6) _
      refine e_putI (ty := .int) ci_X0 (dt dk_X0_read 36 rfl) rfl (by decide) rfl fl_X0_24 rfl (by decide +kernel) rfl rfl ?_
      refine e_iload_n (dt dk_X0_read 37 rfl) rfl ?_
      refine e_iconst (v := (3 : Int32)) (dt dk_X0_read 38 rfl) (by decide) ?_
      refine e_iadd (dt dk_X0_read 39 rfl) ?_
      exact e_iret (dt dk_X0_read 40 rfl) rfl rfl rfl
    · refine e_aload_n (dt dk_X0_read 41 rfl) rfl ?_
      refine e_aload_n (dt dk_X0_read 42 rfl) rfl ?_
      refine e_iload_n (dt dk_X0_read 43 rfl) rfl ?_
      refine ev_call (ca_V (k := 15) mv_X5_houseAt (sp_X5_houseAt_15 v2 (up2 (up2 (up2 M 17 0 r1) 17 1 (0 : Int32)) 17 2 (0 : Int32))) (dt dk_X0_read 44 rfl) ml_X0_27 rfl rfl rfl rfl rfl (by decide) : Ca _ _ _ _ _ _ _ _ [.ref 17] _ _) (fun r4 hr4 => ?_)
      show Ev _ _ _ _ _ _ 69 [some (.ref 17), some (.ref 15), some (.int v2), some (.int r1)] [.int r4, .ref 17] (up2 (up2 (up2 M 17 0 r1) 17 1 (0 : Int32)) 17 2 (0 : Int32)) _
      refine e_putI (ty := .int) ci_X0 (dt dk_X0_read 45 rfl) rfl (by decide) rfl fl_X0_21 rfl (by decide +kernel) rfl rfl ?_
      refine e_aload_n (dt dk_X0_read 46 rfl) rfl ?_
      refine e_aload_n (dt dk_X0_read 47 rfl) rfl ?_
      refine e_iload_n (dt dk_X0_read 48 rfl) rfl ?_
      refine e_iconst (v := (1 : Int32)) (dt dk_X0_read 49 rfl) (by decide) ?_
      refine e_iadd (dt dk_X0_read 50 rfl) ?_
      refine ev_call (ca_V (k := 15) mv_X5_signAt (sp_X5_signAt_15 (v2 + (1 : Int32)) (up2 (up2 (up2 (up2 M 17 0 r1) 17 1 (0 : Int32)) 17 2 (0 : Int32)) 17 1 r4)) (dt dk_X0_read 51 rfl) ml_X0_9 rfl rfl rfl rfl rfl (by decide) : Ca _ _ _ _ _ _ _ _ [.ref 17] _ _) (fun r5 hr5 => ?_)
      show Ev _ _ _ _ _ _ 80 [some (.ref 17), some (.ref 15), some (.int v2), some (.int r1)] [.int r5, .ref 17] (up2 (up2 (up2 (up2 M 17 0 r1) 17 1 (0 : Int32)) 17 2 (0 : Int32)) 17 1 r4) _
      refine e_putI (ty := .int) ci_X0 (dt dk_X0_read 52 rfl) rfl (by decide) rfl fl_X0_15 rfl (by decide +kernel) rfl rfl ?_
      refine e_iload_n (dt dk_X0_read 53 rfl) rfl ?_
      refine e_iconst (v := (2 : Int32)) (dt dk_X0_read 54 rfl) (by decide) ?_
      refine e_iadd (dt dk_X0_read 55 rfl) ?_
      exact e_iret (dt dk_X0_read 56 rfl) rfl rfl rfl
-- X8_whyNot_8_17 (R, depth 1)
def f_X8_whyNot_8_17  (M : Mem) : Option Int32 :=
  (if (f_X9_isHouse (M 17 1)) = 0 then some (1 : Int32) else (if (M 17 0) = (33 : Int32) then if inb (M 17 1) 8 then (if (M 9 (ix (M 17 1))) = 0 then some (3 : Int32) else some (0 : Int32)) else none else if (M 17 0) = (43 : Int32) then if inb (M 17 1) 8 then (if (M 10 (ix (M 17 1))) < (9 : Int32) then some (0 : Int32) else some (1 : Int32)) else none else if (M 17 0) = (45 : Int32) then if inb (M 17 1) 8 then (if (M 10 (ix (M 17 1))) = 0 then some (1 : Int32) else some (0 : Int32)) else none else if (M 17 0) = (94 : Int32) then if inb (M 17 1) 8 then (if (M 11 (ix (M 17 1))) < (9 : Int32) then (if (M 8 6) = 0 then some (2 : Int32) else some (0 : Int32)) else some (1 : Int32)) else none else if (M 17 0) = (95 : Int32) then if inb (M 17 1) 8 then (if (M 11 (ix (M 17 1))) = 0 then some (1 : Int32) else some (0 : Int32)) else none else if (M 17 0) = (111 : Int32) then (if (M 17 1) = (M 17 2) then some (4 : Int32) else some (0 : Int32)) else (if (M 8 8) < (99 : Int32) then some (0 : Int32) else some (5 : Int32))))
set_option maxRecDepth 20000 in
set_option maxHeartbeats 2000000 in
theorem sp_X8_whyNot_8_17  (M : Mem) : SpO (wR M) yX8_whyNot cX8_whyNot 3 (some .int) 1 [.ref 8, .ref 17] M (f_X8_whyNot_8_17 M) := by
  refine sp_of (L := [some (.ref 8), some (.ref 17), none]) rfl (by decide +kernel) rfl rfl ?_
  unfold f_X8_whyNot_8_17
  refine e_aload_n (dt dk_X8_whyNot 0 rfl) rfl ?_
  refine e_getI (v := (M 17 1)) ci_X0 (dt dk_X8_whyNot 1 rfl) rfl (by decide) rfl fl_X8_56 rfl ?_
  refine e_istore_n [some (.ref 8), some (.ref 17), some (.int (M 17 1))] (dt dk_X8_whyNot 2 rfl) rfl rfl rfl ?_
  refine e_iload_n (dt dk_X8_whyNot 3 rfl) rfl ?_
  refine ev_callT (ca_SN ms_X9_isHouse (sp_X9_isHouse (M 17 1) M) (dt dk_X8_whyNot 4 rfl) mn_X8_46 rfl rfl rfl (by decide) : Ca _ _ _ _ _ _ _ _ [] _ _) ?_
  show Ev _ _ _ _ _ _ 9 [some (.ref 8), some (.ref 17), some (.int (M 17 1))] [.int (f_X9_isHouse (M 17 1))] M _
  refine e_if_ne 14 (dt dk_X8_whyNot 5 rfl) (by decide) (fun h1 => ?_) (fun h1 => ?_)
  · refine e_iconst (v := (1 : Int32)) (dt dk_X8_whyNot 6 rfl) (by decide) ?_
    exact e_iret (dt dk_X8_whyNot 7 rfl) rfl rfl rfl
  · refine e_aload_n (dt dk_X8_whyNot 8 rfl) rfl ?_
    refine e_getI (v := (M 17 0)) ci_X0 (dt dk_X8_whyNot 9 rfl) rfl (by decide) rfl fl_X8_61 rfl ?_
    refine e_split (fun h2 => ?_) (fun h2 => ?_)
    · refine e_lookup (off := 131) 149 (dt dk_X8_whyNot 10 rfl) rfl (by rw [h2]; rfl) (by decide) ?_
      refine e_aload_n (dt dk_X8_whyNot 54 rfl) rfl ?_
      refine e_getR ci_X8 (dt dk_X8_whyNot 55 rfl) rfl (by decide) rfl fl_X8_9 ?_
      refine e_iload_n (dt dk_X8_whyNot 56 rfl) rfl ?_
      refine e_if (fun h3 => ?_)
      refine e_iald' (v := (M 9 (ix (M 17 1)))) (dt dk_X8_whyNot 57 rfl) rfl h3 rfl ?_
      refine e_if_ne 162 (dt dk_X8_whyNot 58 rfl) (by decide) (fun h4 => ?_) (fun h4 => ?_)
      · refine e_iconst (v := (3 : Int32)) (dt dk_X8_whyNot 59 rfl) (by decide) ?_
        refine e_goto 163 (dt dk_X8_whyNot 60 rfl) (by decide) ?_
        exact e_iret (dt dk_X8_whyNot 62 rfl) rfl rfl rfl
      · refine e_iconst (v := (0 : Int32)) (dt dk_X8_whyNot 61 rfl) (by decide) ?_
        exact e_iret (dt dk_X8_whyNot 62 rfl) rfl rfl rfl
    · skip
      refine e_split (fun h5 => ?_) (fun h5 => ?_)
      · refine e_lookup (off := 58) 76 (dt dk_X8_whyNot 10 rfl) rfl (by rw [h5]; rfl) (by decide) ?_
        refine e_aload_n (dt dk_X8_whyNot 11 rfl) rfl ?_
        refine e_getR ci_X8 (dt dk_X8_whyNot 12 rfl) rfl (by decide) rfl fl_X8_15 ?_
        refine e_iload_n (dt dk_X8_whyNot 13 rfl) rfl ?_
        refine e_if (fun h6 => ?_)
        refine e_iald' (v := (M 10 (ix (M 17 1)))) (dt dk_X8_whyNot 14 rfl) rfl h6 rfl ?_
        refine e_bipush (v := (9 : Int32)) (dt dk_X8_whyNot 15 rfl) (by decide) ?_
        refine e_icmp_lt 91 (dt dk_X8_whyNot 16 rfl) (by decide) (fun h7 => ?_) (fun h7 => ?_)
        · refine e_iconst (v := (0 : Int32)) (dt dk_X8_whyNot 19 rfl) (by decide) ?_
          exact e_iret (dt dk_X8_whyNot 20 rfl) rfl rfl rfl
        · refine e_iconst (v := (1 : Int32)) (dt dk_X8_whyNot 17 rfl) (by decide) ?_
          refine e_goto 92 (dt dk_X8_whyNot 18 rfl) (by decide) ?_
          exact e_iret (dt dk_X8_whyNot 20 rfl) rfl rfl rfl
      · skip
        refine e_split (fun h8 => ?_) (fun h8 => ?_)
        · refine e_lookup (off := 75) 93 (dt dk_X8_whyNot 10 rfl) rfl (by rw [h8]; rfl) (by decide) ?_
          refine e_aload_n (dt dk_X8_whyNot 21 rfl) rfl ?_
          refine e_getR ci_X8 (dt dk_X8_whyNot 22 rfl) rfl (by decide) rfl fl_X8_15 ?_
          refine e_iload_n (dt dk_X8_whyNot 23 rfl) rfl ?_
          refine e_if (fun h9 => ?_)
          refine e_iald' (v := (M 10 (ix (M 17 1)))) (dt dk_X8_whyNot 24 rfl) rfl h9 rfl ?_
          refine e_if_ne 106 (dt dk_X8_whyNot 25 rfl) (by decide) (fun h10 => ?_) (fun h10 => ?_)
          · refine e_iconst (v := (1 : Int32)) (dt dk_X8_whyNot 26 rfl) (by decide) ?_
            refine e_goto 107 (dt dk_X8_whyNot 27 rfl) (by decide) ?_
            exact e_iret (dt dk_X8_whyNot 29 rfl) rfl rfl rfl
          · refine e_iconst (v := (0 : Int32)) (dt dk_X8_whyNot 28 rfl) (by decide) ?_
            exact e_iret (dt dk_X8_whyNot 29 rfl) rfl rfl rfl
        · skip
          refine e_split (fun h11 => ?_) (fun h11 => ?_)
          · refine e_lookup (off := 90) 108 (dt dk_X8_whyNot 10 rfl) rfl (by rw [h11]; rfl) (by decide) ?_
            refine e_aload_n (dt dk_X8_whyNot 30 rfl) rfl ?_
            refine e_getR ci_X8 (dt dk_X8_whyNot 31 rfl) rfl (by decide) rfl fl_X8_18 ?_
            refine e_iload_n (dt dk_X8_whyNot 32 rfl) rfl ?_
            refine e_if (fun h12 => ?_)
            refine e_iald' (v := (M 11 (ix (M 17 1)))) (dt dk_X8_whyNot 33 rfl) rfl h12 rfl ?_
            refine e_bipush (v := (9 : Int32)) (dt dk_X8_whyNot 34 rfl) (by decide) ?_
            refine e_icmp_lt 121 (dt dk_X8_whyNot 35 rfl) (by decide) (fun h13 => ?_) (fun h13 => ?_)
            · refine e_aload_n (dt dk_X8_whyNot 38 rfl) rfl ?_
              refine e_getI (v := (M 8 6)) ci_X8 (dt dk_X8_whyNot 39 rfl) rfl (by decide) rfl fl_X8_30 rfl ?_
              refine e_if_ne 132 (dt dk_X8_whyNot 40 rfl) (by decide) (fun h14 => ?_) (fun h14 => ?_)
              · refine e_iconst (v := (2 : Int32)) (dt dk_X8_whyNot 41 rfl) (by decide) ?_
                refine e_goto 133 (dt dk_X8_whyNot 42 rfl) (by decide) ?_
                exact e_iret (dt dk_X8_whyNot 44 rfl) rfl rfl rfl
              · refine e_iconst (v := (0 : Int32)) (dt dk_X8_whyNot 43 rfl) (by decide) ?_
                exact e_iret (dt dk_X8_whyNot 44 rfl) rfl rfl rfl
            · refine e_iconst (v := (1 : Int32)) (dt dk_X8_whyNot 36 rfl) (by decide) ?_
              exact e_iret (dt dk_X8_whyNot 37 rfl) rfl rfl rfl
          · skip
            refine e_split (fun h15 => ?_) (fun h15 => ?_)
            · refine e_lookup (off := 116) 134 (dt dk_X8_whyNot 10 rfl) rfl (by rw [h15]; rfl) (by decide) ?_
              refine e_aload_n (dt dk_X8_whyNot 45 rfl) rfl ?_
              refine e_getR ci_X8 (dt dk_X8_whyNot 46 rfl) rfl (by decide) rfl fl_X8_18 ?_
              refine e_iload_n (dt dk_X8_whyNot 47 rfl) rfl ?_
              refine e_if (fun h16 => ?_)
              refine e_iald' (v := (M 11 (ix (M 17 1)))) (dt dk_X8_whyNot 48 rfl) rfl h16 rfl ?_
              refine e_if_ne 147 (dt dk_X8_whyNot 49 rfl) (by decide) (fun h17 => ?_) (fun h17 => ?_)
              · refine e_iconst (v := (1 : Int32)) (dt dk_X8_whyNot 50 rfl) (by decide) ?_
                refine e_goto 148 (dt dk_X8_whyNot 51 rfl) (by decide) ?_
                exact e_iret (dt dk_X8_whyNot 53 rfl) rfl rfl rfl
              · refine e_iconst (v := (0 : Int32)) (dt dk_X8_whyNot 52 rfl) (by decide) ?_
                exact e_iret (dt dk_X8_whyNot 53 rfl) rfl rfl rfl
            · skip
              refine e_split (fun h18 => ?_) (fun h18 => ?_)
              · refine e_lookup (off := 146) 164 (dt dk_X8_whyNot 10 rfl) rfl (by rw [h18]; rfl) (by decide) ?_
                refine e_iload_n (dt dk_X8_whyNot 63 rfl) rfl ?_
                refine e_aload_n (dt dk_X8_whyNot 64 rfl) rfl ?_
                refine e_getI (v := (M 17 2)) ci_X0 (dt dk_X8_whyNot 65 rfl) rfl (by decide) rfl fl_X8_64 rfl ?_
                refine e_icmp_ne 176 (dt dk_X8_whyNot 66 rfl) (by decide) (fun h19 => ?_) (fun h19 => ?_)
                · refine e_iconst (v := (4 : Int32)) (dt dk_X8_whyNot 67 rfl) (by decide) ?_
                  refine e_goto 177 (dt dk_X8_whyNot 68 rfl) (by decide) ?_
                  exact e_iret (dt dk_X8_whyNot 70 rfl) rfl rfl rfl
                · refine e_iconst (v := (0 : Int32)) (dt dk_X8_whyNot 69 rfl) (by decide) ?_
                  exact e_iret (dt dk_X8_whyNot 70 rfl) rfl rfl rfl
              · skip
                refine e_lookup (off := 160) 178 (dt dk_X8_whyNot 10 rfl) rfl ((lv_osw h2 rfl).trans <| (lv_osw h5 rfl).trans <| (lv_osw h8 rfl).trans <| (lv_osw h11 rfl).trans <| (lv_osw h15 rfl).trans <| (lv_osw h18 rfl).trans <| rfl) (by decide) ?_
                refine e_aload_n (dt dk_X8_whyNot 71 rfl) rfl ?_
                refine e_getI (v := (M 8 8)) ci_X8 (dt dk_X8_whyNot 72 rfl) rfl (by decide) rfl fl_X8_43 rfl ?_
                refine e_bipush (v := (99 : Int32)) (dt dk_X8_whyNot 73 rfl) (by decide) ?_
                refine e_icmp_lt 191 (dt dk_X8_whyNot 74 rfl) (by decide) (fun h20 => ?_) (fun h20 => ?_)
                · refine e_iconst (v := (0 : Int32)) (dt dk_X8_whyNot 77 rfl) (by decide) ?_
                  exact e_iret (dt dk_X8_whyNot 78 rfl) rfl rfl rfl
                · refine e_iconst (v := (5 : Int32)) (dt dk_X8_whyNot 75 rfl) (by decide) ?_
                  refine e_goto 192 (dt dk_X8_whyNot 76 rfl) (by decide) ?_
                  exact e_iret (dt dk_X8_whyNot 78 rfl) rfl rfl rfl
-- X8_turnHole_8 (W, depth 1)
def f_X8_turnHole_8 (v1 : Int32) (v2 : Int32) (M : Mem) : Option Mem :=
  (if (f_X9_isHouse v1) = 0 then some M else (if (f_X9_isHouse v2) = 0 then some M else if inb v1 8 then if inb v1 8 then if inb v2 8 then if inb v2 8 then some (up2 (up2 M 13 (ix v1) ((M 13 (ix v1)) ^^^ ((1 : Int32) <<< (v2 &&& 31)))) 13 (ix v2) (((up2 M 13 (ix v1) ((M 13 (ix v1)) ^^^ ((1 : Int32) <<< (v2 &&& 31)))) 13 (ix v2)) ^^^ ((1 : Int32) <<< (v1 &&& 31)))) else none else none else none else none))
set_option maxRecDepth 20000 in
set_option maxHeartbeats 2000000 in
theorem sp_X8_turnHole_8 (v1 : Int32) (v2 : Int32) (M : Mem) : SpO wV yX8_turnHole cX8_turnHole 3 none 1 [.ref 8, .int v1, .int v2] M (f_X8_turnHole_8 v1 v2 M) := by
  refine sp_of (L := [some (.ref 8), some (.int v1), some (.int v2)]) rfl (by decide +kernel) rfl rfl ?_
  unfold f_X8_turnHole_8
  refine e_iload_n (dt dk_X8_turnHole 0 rfl) rfl ?_
  refine ev_callT (ca_SN ms_X9_isHouse (sp_X9_isHouse v1 M) (dt dk_X8_turnHole 1 rfl) mn_X8_46 rfl rfl rfl (by decide) : Ca _ _ _ _ _ _ _ _ [] _ _) ?_
  show Ev _ _ _ _ _ _ 4 [some (.ref 8), some (.int v1), some (.int v2)] [.int (f_X9_isHouse v1)] M _
  refine e_if_eq 38 (dt dk_X8_turnHole 2 rfl) (by decide) (fun h1 => ?_) (fun h1 => ?_)
  · exact e_vret (dt dk_X8_turnHole 26 rfl) rfl rfl
  · refine e_iload_n (dt dk_X8_turnHole 3 rfl) rfl ?_
    refine ev_callT (ca_SN ms_X9_isHouse (sp_X9_isHouse v2 M) (dt dk_X8_turnHole 4 rfl) mn_X8_46 rfl rfl rfl (by decide) : Ca _ _ _ _ _ _ _ _ [] _ _) ?_
    show Ev _ _ _ _ _ _ 11 [some (.ref 8), some (.int v1), some (.int v2)] [.int (f_X9_isHouse v2)] M _
    refine e_if_eq 38 (dt dk_X8_turnHole 5 rfl) (by decide) (fun h2 => ?_) (fun h2 => ?_)
    · exact e_vret (dt dk_X8_turnHole 26 rfl) rfl rfl
    · refine e_aload_n (dt dk_X8_turnHole 6 rfl) rfl ?_
      refine e_getR ci_X8 (dt dk_X8_turnHole 7 rfl) rfl (by decide) rfl fl_X8_24 ?_
      refine e_iload_n (dt dk_X8_turnHole 8 rfl) rfl ?_
      refine e_dup2 (dt dk_X8_turnHole 9 rfl) rfl rfl ?_
      refine e_if (fun h3 => ?_)
      refine e_iald' (v := (M 13 (ix v1))) (dt dk_X8_turnHole 10 rfl) rfl h3 rfl ?_
      refine e_iconst (v := (1 : Int32)) (dt dk_X8_turnHole 11 rfl) (by decide) ?_
      refine e_iload_n (dt dk_X8_turnHole 12 rfl) rfl ?_
      refine e_ishl (dt dk_X8_turnHole 13 rfl) ?_
      refine e_ixor (dt dk_X8_turnHole 14 rfl) ?_
      refine e_if (fun h4 => ?_)
      refine e_iast' (dt dk_X8_turnHole 15 rfl) rfl h4 ?_
      refine e_aload_n (dt dk_X8_turnHole 16 rfl) rfl ?_
      refine e_getR ci_X8 (dt dk_X8_turnHole 17 rfl) rfl (by decide) rfl fl_X8_24 ?_
      refine e_iload_n (dt dk_X8_turnHole 18 rfl) rfl ?_
      refine e_dup2 (dt dk_X8_turnHole 19 rfl) rfl rfl ?_
      refine e_if (fun h5 => ?_)
      refine e_iald' (v := ((up2 M 13 (ix v1) ((M 13 (ix v1)) ^^^ ((1 : Int32) <<< (v2 &&& 31)))) 13 (ix v2))) (dt dk_X8_turnHole 20 rfl) rfl h5 rfl ?_
      refine e_iconst (v := (1 : Int32)) (dt dk_X8_turnHole 21 rfl) (by decide) ?_
      refine e_iload_n (dt dk_X8_turnHole 22 rfl) rfl ?_
      refine e_ishl (dt dk_X8_turnHole 23 rfl) ?_
      refine e_ixor (dt dk_X8_turnHole 24 rfl) ?_
      refine e_if (fun h6 => ?_)
      refine e_iast' (dt dk_X8_turnHole 25 rfl) rfl h6 ?_
      exact e_vret (dt dk_X8_turnHole 26 rfl) rfl rfl
-- X8_quietestOf_8 (R, depth 0)
def bd_X8_quietestOf_8_9 (M : Mem)  (K9 : Int32 → Int32 → Int32 → Int32 → Option Int32) (v1 : Int32) (v2 : Int32) (v3 : Int32) (v4 : Int32) : Option Int32 :=
  (if (8 : Int32) ≤ v4 then some v2 else (if ((v1 >>> (v4 &&& 31)) &&& (1 : Int32)) = (1 : Int32) then if inb v4 8 then (if v3 ≤ (M 14 (ix v4)) then (K9 v1 v2 v3 (v4 + (1 : Int32))) else if inb v4 8 then (K9 v1 v4 (M 14 (ix v4)) (v4 + (1 : Int32))) else none) else none else (K9 v1 v2 v3 (v4 + (1 : Int32)))))
set_option maxRecDepth 20000 in
set_option maxHeartbeats 2000000 in
theorem ev_bd_X8_quietestOf_8_9 (M : Mem)  (K9 : Int32 → Int32 → Int32 → Int32 → Option Int32)  (hK9 : ∀ (v1 : Int32) (v2 : Int32) (v3 : Int32) (v4 : Int32), Ev none (wR M) RX8 cX8_quietestOf (some .int) 0 9 [some (.ref 8), some (.int v1), some (.int v2), some (.int v3), some (.int v4)] [] M (K9 v1 v2 v3 v4)) (v1 : Int32) (v2 : Int32) (v3 : Int32) (v4 : Int32) : Ev none (wR M) RX8 cX8_quietestOf (some .int) 0 9 [some (.ref 8), some (.int v1), some (.int v2), some (.int v3), some (.int v4)] [] M (bd_X8_quietestOf_8_9 M K9 v1 v2 v3 v4) := by
  unfold bd_X8_quietestOf_8_9
  refine e_iload (dt dk_X8_quietestOf 6 rfl) rfl ?_
  refine e_bipush (v := (8 : Int32)) (dt dk_X8_quietestOf 7 rfl) (by decide) ?_
  refine e_icmp_ge 54 (dt dk_X8_quietestOf 8 rfl) (by decide) (fun h1 => ?_) (fun h1 => ?_)
  · refine e_iload_n (dt dk_X8_quietestOf 31 rfl) rfl ?_
    exact e_iret (dt dk_X8_quietestOf 32 rfl) rfl rfl rfl
  · refine e_iload_n (dt dk_X8_quietestOf 9 rfl) rfl ?_
    refine e_iload (dt dk_X8_quietestOf 10 rfl) rfl ?_
    refine e_ishr (dt dk_X8_quietestOf 11 rfl) ?_
    refine e_iconst (v := (1 : Int32)) (dt dk_X8_quietestOf 12 rfl) (by decide) ?_
    refine e_iand (dt dk_X8_quietestOf 13 rfl) ?_
    refine e_iconst (v := (1 : Int32)) (dt dk_X8_quietestOf 14 rfl) (by decide) ?_
    refine e_icmp_ne 48 (dt dk_X8_quietestOf 15 rfl) (by decide) (fun h2 => ?_) (fun h2 => ?_)
    · refine e_aload_n (dt dk_X8_quietestOf 16 rfl) rfl ?_
      refine e_getR ci_X8 (dt dk_X8_quietestOf 17 rfl) rfl (by decide) rfl fl_X8_27 ?_
      refine e_iload (dt dk_X8_quietestOf 18 rfl) rfl ?_
      refine e_if (fun h3 => ?_)
      refine e_iald' (v := (M 14 (ix v4))) (dt dk_X8_quietestOf 19 rfl) rfl h3 rfl ?_
      refine e_iload_n (dt dk_X8_quietestOf 20 rfl) rfl ?_
      refine e_icmp_ge 48 (dt dk_X8_quietestOf 21 rfl) (by decide) (fun h4 => ?_) (fun h4 => ?_)
      · refine e_iinc [some (.ref 8), some (.int v1), some (.int v2), some (.int v3), some (.int (v4 + (1 : Int32)))] (dt dk_X8_quietestOf 29 rfl) rfl rfl rfl rfl ?_
        refine e_goto 9 (dt dk_X8_quietestOf 30 rfl) (by decide) ?_
        exact e_forget [true, true, true, true, true] [some (.ref 8), some (.int v1), some (.int v2), some (.int v3), some (.int (v4 + (1 : Int32)))] ⟨rfl, rfl⟩ (hK9 v1 v2 v3 (v4 + (1 : Int32)))
      · refine e_iload (dt dk_X8_quietestOf 22 rfl) rfl ?_
        refine e_istore_n [some (.ref 8), some (.int v1), some (.int v4), some (.int v3), some (.int v4)] (dt dk_X8_quietestOf 23 rfl) rfl rfl rfl ?_
        refine e_aload_n (dt dk_X8_quietestOf 24 rfl) rfl ?_
        refine e_getR ci_X8 (dt dk_X8_quietestOf 25 rfl) rfl (by decide) rfl fl_X8_27 ?_
        refine e_iload (dt dk_X8_quietestOf 26 rfl) rfl ?_
        refine e_if (fun h5 => ?_)
        refine e_iald' (v := (M 14 (ix v4))) (dt dk_X8_quietestOf 27 rfl) rfl h5 rfl ?_
        refine e_istore_n [some (.ref 8), some (.int v1), some (.int v4), some (.int (M 14 (ix v4))), some (.int v4)] (dt dk_X8_quietestOf 28 rfl) rfl rfl rfl ?_
        refine e_iinc [some (.ref 8), some (.int v1), some (.int v4), some (.int (M 14 (ix v4))), some (.int (v4 + (1 : Int32)))] (dt dk_X8_quietestOf 29 rfl) rfl rfl rfl rfl ?_
        refine e_goto 9 (dt dk_X8_quietestOf 30 rfl) (by decide) ?_
        exact e_forget [true, true, true, true, true] [some (.ref 8), some (.int v1), some (.int v4), some (.int (M 14 (ix v4))), some (.int (v4 + (1 : Int32)))] ⟨rfl, rfl⟩ (hK9 v1 v4 (M 14 (ix v4)) (v4 + (1 : Int32)))
    · refine e_iinc [some (.ref 8), some (.int v1), some (.int v2), some (.int v3), some (.int (v4 + (1 : Int32)))] (dt dk_X8_quietestOf 29 rfl) rfl rfl rfl rfl ?_
      refine e_goto 9 (dt dk_X8_quietestOf 30 rfl) (by decide) ?_
      exact e_forget [true, true, true, true, true] [some (.ref 8), some (.int v1), some (.int v2), some (.int v3), some (.int (v4 + (1 : Int32)))] ⟨rfl, rfl⟩ (hK9 v1 v2 v3 (v4 + (1 : Int32)))
def lp_X8_quietestOf_8_9 (M : Mem)  : Nat → Int32 → Int32 → Int32 → Int32 → Option Int32
  | 0 => fun _ _ _ _ => none
  | n + 1 => bd_X8_quietestOf_8_9 M (lp_X8_quietestOf_8_9 M n)
theorem ev_lp_X8_quietestOf_8_9 (M : Mem)   : ∀ (n : Nat), ∀ (v1 : Int32) (v2 : Int32) (v3 : Int32) (v4 : Int32), Ev none (wR M) RX8 cX8_quietestOf (some .int) 0 9 [some (.ref 8), some (.int v1), some (.int v2), some (.int v3), some (.int v4)] [] M (lp_X8_quietestOf_8_9 M n v1 v2 v3 v4)
  | 0 => fun _ _ _ _ => e_none
  | n + 1 => ev_bd_X8_quietestOf_8_9 M (lp_X8_quietestOf_8_9 M n) (ev_lp_X8_quietestOf_8_9 M n)
def f_X8_quietestOf_8 (v1 : Int32) (M : Mem) : Option Int32 :=
  (lp_X8_quietestOf_8_9 M FU v1 (-6 : Int32) (100 : Int32) (0 : Int32))
set_option maxRecDepth 20000 in
set_option maxHeartbeats 2000000 in
theorem sp_X8_quietestOf_8 (v1 : Int32) (M : Mem) : SpO (wR M) yX8_quietestOf cX8_quietestOf 5 (some .int) 0 [.ref 8, .int v1] M (f_X8_quietestOf_8 v1 M) := by
  refine sp_of (L := [some (.ref 8), some (.int v1), none, none, none]) rfl (by decide +kernel) rfl rfl ?_
  unfold f_X8_quietestOf_8
  refine e_bipush (v := (-6 : Int32)) (dt dk_X8_quietestOf 0 rfl) (by decide) ?_
  refine e_istore_n [some (.ref 8), some (.int v1), some (.int (-6 : Int32)), none, none] (dt dk_X8_quietestOf 1 rfl) rfl rfl rfl ?_
  refine e_bipush (v := (100 : Int32)) (dt dk_X8_quietestOf 2 rfl) (by decide) ?_
  refine e_istore_n [some (.ref 8), some (.int v1), some (.int (-6 : Int32)), some (.int (100 : Int32)), none] (dt dk_X8_quietestOf 3 rfl) rfl rfl rfl ?_
  refine e_iconst (v := (0 : Int32)) (dt dk_X8_quietestOf 4 rfl) (by decide) ?_
  refine e_istore [some (.ref 8), some (.int v1), some (.int (-6 : Int32)), some (.int (100 : Int32)), some (.int (0 : Int32))] (dt dk_X8_quietestOf 5 rfl) rfl rfl rfl ?_
  exact e_forget [true, true, true, true, true] [some (.ref 8), some (.int v1), some (.int (-6 : Int32)), some (.int (100 : Int32)), some (.int (0 : Int32))] ⟨rfl, rfl⟩ (ev_lp_X8_quietestOf_8_9 M FU v1 (-6 : Int32) (100 : Int32) (0 : Int32))
-- X8_wander_8 (W, depth 1)
def bd_X8_wander_8_98  (K98 : Int32 → Mem → Option Mem) (v1 : Int32) (M : Mem) : Option Mem :=
  (if (8 : Int32) ≤ v1 then some M else if inb v1 8 then if inb v1 8 then (K98 (v1 + (1 : Int32)) (up2 M 9 (ix v1) (minI (99 : Int32) (M 9 (ix v1))))) else none else none)
set_option maxRecDepth 20000 in
set_option maxHeartbeats 2000000 in
theorem ev_bd_X8_wander_8_98  (K98 : Int32 → Mem → Option Mem)  (hK98 : ∀ (v1 : Int32) (M : Mem), Ev none wV RX8 cX8_wander none 1 98 [some (.ref 8), some (.int v1), none] [] M (K98 v1 M)) (v1 : Int32) (M : Mem) : Ev none wV RX8 cX8_wander none 1 98 [some (.ref 8), some (.int v1), none] [] M (bd_X8_wander_8_98 K98 v1 M) := by
  unfold bd_X8_wander_8_98
  refine e_iload_n (dt dk_X8_wander 59 rfl) rfl ?_
  refine e_bipush (v := (8 : Int32)) (dt dk_X8_wander 60 rfl) (by decide) ?_
  refine e_icmp_ge 127 (dt dk_X8_wander 61 rfl) (by decide) (fun h2 => ?_) (fun h2 => ?_)
  · exact e_vret (dt dk_X8_wander 74 rfl) rfl rfl
  · refine e_aload_n (dt dk_X8_wander 62 rfl) rfl ?_
    refine e_getR ci_X8 (dt dk_X8_wander 63 rfl) rfl (by decide) rfl fl_X8_9 ?_
    refine e_iload_n (dt dk_X8_wander 64 rfl) rfl ?_
    refine e_bipush (v := (99 : Int32)) (dt dk_X8_wander 65 rfl) (by decide) ?_
    refine e_aload_n (dt dk_X8_wander 66 rfl) rfl ?_
    refine e_getR ci_X8 (dt dk_X8_wander 67 rfl) rfl (by decide) rfl fl_X8_9 ?_
    refine e_iload_n (dt dk_X8_wander 68 rfl) rfl ?_
    refine e_if (fun h3 => ?_)
    refine e_iald' (v := (M 9 (ix v1))) (dt dk_X8_wander 69 rfl) rfl h3 rfl ?_
    refine e_min ok_min (dt dk_X8_wander 70 rfl) ml_X8_67 rfl (by decide) ?_
    show Ev _ _ _ _ _ _ 120 [some (.ref 8), some (.int v1), none] [.int (minI (99 : Int32) (M 9 (ix v1))), .int v1, .ref 9] M _
    refine e_if (fun h4 => ?_)
    refine e_iast' (dt dk_X8_wander 71 rfl) rfl h4 ?_
    refine e_iinc [some (.ref 8), some (.int (v1 + (1 : Int32))), none] (dt dk_X8_wander 72 rfl) rfl rfl rfl rfl ?_
    refine e_goto 98 (dt dk_X8_wander 73 rfl) (by decide) ?_
    exact e_forget [true, true, false] [some (.ref 8), some (.int (v1 + (1 : Int32))), none] ⟨rfl, rfl⟩ (hK98 (v1 + (1 : Int32)) (up2 M 9 (ix v1) (minI (99 : Int32) (M 9 (ix v1)))))
def lp_X8_wander_8_98  : Nat → Int32 → Mem → Option Mem
  | 0 => fun _ _ => none
  | n + 1 => bd_X8_wander_8_98 (lp_X8_wander_8_98 n)
theorem ev_lp_X8_wander_8_98   : ∀ (n : Nat), ∀ (v1 : Int32) (M : Mem), Ev none wV RX8 cX8_wander none 1 98 [some (.ref 8), some (.int v1), none] [] M (lp_X8_wander_8_98 n v1 M)
  | 0 => fun _ _ => e_none
  | n + 1 => ev_bd_X8_wander_8_98 (lp_X8_wander_8_98 n) (ev_lp_X8_wander_8_98 n)
def lb_X8_wander_8_52 (K17 : Int32 → Mem → Option Mem) (v1 : Int32) (M : Mem) : Option Mem :=
  if inb v1 8 then ((f_X8_quietestOf_8 (M 13 (ix v1)) M)).bind fun r8 => (if (f_X9_isHouse r8) = 0 then (K17 (v1 + (1 : Int32)) M) else if inb v1 8 then if inb v1 8 then if inb r8 8 then if inb r8 8 then (K17 (v1 + (1 : Int32)) (up2 (up2 M 9 (ix v1) ((M 9 (ix v1)) - (1 : Int32))) 9 (ix r8) (((up2 M 9 (ix v1) ((M 9 (ix v1)) - (1 : Int32))) 9 (ix r8)) + (1 : Int32)))) else none else none else none else none) else none
set_option maxRecDepth 20000 in
set_option maxHeartbeats 2000000 in
theorem ev_lb_X8_wander_8_52 (K17 : Int32 → Mem → Option Mem) (hK17 : ∀ (v1 : Int32) (M : Mem), Ev none wV RX8 cX8_wander none 1 17 [some (.ref 8), some (.int v1), none] [] M (K17 v1 M)) (v1 : Int32) (M : Mem) : Ev none wV RX8 cX8_wander none 1 52 [some (.ref 8), some (.int v1), none] [] M (lb_X8_wander_8_52 K17 v1 M) := by
  unfold lb_X8_wander_8_52
  refine e_aload_n (dt dk_X8_wander 29 rfl) rfl ?_
  refine e_aload_n (dt dk_X8_wander 30 rfl) rfl ?_
  refine e_getR ci_X8 (dt dk_X8_wander 31 rfl) rfl (by decide) rfl fl_X8_24 ?_
  refine e_iload_n (dt dk_X8_wander 32 rfl) rfl ?_
  refine e_if (fun h7 => ?_)
  refine e_iald' (v := (M 13 (ix v1))) (dt dk_X8_wander 33 rfl) rfl h7 rfl ?_
  refine ev_call (ca_V (k := 8) mv_X8_quietestOf (sp_X8_quietestOf_8 (M 13 (ix v1)) M) (dt dk_X8_wander 34 rfl) ml_X8_92 rfl rfl rfl rfl rfl (by decide) : Ca _ _ _ _ _ _ _ _ [] _ _) (fun r8 hr8 => ?_)
  show Ev _ _ _ _ _ _ 62 [some (.ref 8), some (.int v1), none] [.int r8] M _
  refine e_istore_n [some (.ref 8), some (.int v1), some (.int r8)] (dt dk_X8_wander 35 rfl) rfl rfl rfl ?_
  refine e_iload_n (dt dk_X8_wander 36 rfl) rfl ?_
  refine ev_callT (ca_SN ms_X9_isHouse (sp_X9_isHouse r8 M) (dt dk_X8_wander 37 rfl) mn_X8_46 rfl rfl rfl (by decide) : Ca _ _ _ _ _ _ _ _ [] _ _) ?_
  show Ev _ _ _ _ _ _ 67 [some (.ref 8), some (.int v1), some (.int r8)] [.int (f_X9_isHouse r8)] M _
  refine e_if_eq 90 (dt dk_X8_wander 38 rfl) (by decide) (fun h9 => ?_) (fun h9 => ?_)
  · refine e_iinc [some (.ref 8), some (.int (v1 + (1 : Int32))), some (.int r8)] (dt dk_X8_wander 55 rfl) rfl rfl rfl rfl ?_
    refine e_goto 17 (dt dk_X8_wander 56 rfl) (by decide) ?_
    exact e_forget [true, true, false] [some (.ref 8), some (.int (v1 + (1 : Int32))), none] ⟨rfl, rfl⟩ (hK17 (v1 + (1 : Int32)) M)
  · refine e_aload_n (dt dk_X8_wander 39 rfl) rfl ?_
    refine e_getR ci_X8 (dt dk_X8_wander 40 rfl) rfl (by decide) rfl fl_X8_9 ?_
    refine e_iload_n (dt dk_X8_wander 41 rfl) rfl ?_
    refine e_dup2 (dt dk_X8_wander 42 rfl) rfl rfl ?_
    refine e_if (fun h10 => ?_)
    refine e_iald' (v := (M 9 (ix v1))) (dt dk_X8_wander 43 rfl) rfl h10 rfl ?_
    refine e_iconst (v := (1 : Int32)) (dt dk_X8_wander 44 rfl) (by decide) ?_
    refine e_isub (dt dk_X8_wander 45 rfl) ?_
    refine e_if (fun h11 => ?_)
    refine e_iast' (dt dk_X8_wander 46 rfl) rfl h11 ?_
    refine e_aload_n (dt dk_X8_wander 47 rfl) rfl ?_
    refine e_getR ci_X8 (dt dk_X8_wander 48 rfl) rfl (by decide) rfl fl_X8_9 ?_
    refine e_iload_n (dt dk_X8_wander 49 rfl) rfl ?_
    refine e_dup2 (dt dk_X8_wander 50 rfl) rfl rfl ?_
    refine e_if (fun h12 => ?_)
    refine e_iald' (v := ((up2 M 9 (ix v1) ((M 9 (ix v1)) - (1 : Int32))) 9 (ix r8))) (dt dk_X8_wander 51 rfl) rfl h12 rfl ?_
    refine e_iconst (v := (1 : Int32)) (dt dk_X8_wander 52 rfl) (by decide) ?_
    refine e_iadd (dt dk_X8_wander 53 rfl) ?_
    refine e_if (fun h13 => ?_)
    refine e_iast' (dt dk_X8_wander 54 rfl) rfl h13 ?_
    refine e_iinc [some (.ref 8), some (.int (v1 + (1 : Int32))), some (.int r8)] (dt dk_X8_wander 55 rfl) rfl rfl rfl rfl ?_
    refine e_goto 17 (dt dk_X8_wander 56 rfl) (by decide) ?_
    exact e_forget [true, true, false] [some (.ref 8), some (.int (v1 + (1 : Int32))), none] ⟨rfl, rfl⟩ (hK17 (v1 + (1 : Int32)) (up2 (up2 M 9 (ix v1) ((M 9 (ix v1)) - (1 : Int32))) 9 (ix r8) (((up2 M 9 (ix v1) ((M 9 (ix v1)) - (1 : Int32))) 9 (ix r8)) + (1 : Int32))))
def bd_X8_wander_8_17  (K17 : Int32 → Mem → Option Mem) (v1 : Int32) (M : Mem) : Option Mem :=
  (if (8 : Int32) ≤ v1 then (lp_X8_wander_8_98 FU (0 : Int32) M) else if inb v1 8 then (if (10 : Int32) ≤ (M 14 (ix v1)) then (lb_X8_wander_8_52 K17 v1 M) else if inb v1 8 then (if (M 12 (ix v1)) ≤ 0 then (K17 (v1 + (1 : Int32)) M) else if inb v1 8 then (if (M 14 (ix v1)) ≤ 0 then (K17 (v1 + (1 : Int32)) M) else (lb_X8_wander_8_52 K17 v1 M)) else none) else none) else none)
set_option maxRecDepth 20000 in
set_option maxHeartbeats 2000000 in
theorem ev_bd_X8_wander_8_17  (K17 : Int32 → Mem → Option Mem)  (hK17 : ∀ (v1 : Int32) (M : Mem), Ev none wV RX8 cX8_wander none 1 17 [some (.ref 8), some (.int v1), none] [] M (K17 v1 M)) (v1 : Int32) (M : Mem) : Ev none wV RX8 cX8_wander none 1 17 [some (.ref 8), some (.int v1), none] [] M (bd_X8_wander_8_17 K17 v1 M) := by
  unfold bd_X8_wander_8_17
  refine e_iload_n (dt dk_X8_wander 10 rfl) rfl ?_
  refine e_bipush (v := (8 : Int32)) (dt dk_X8_wander 11 rfl) (by decide) ?_
  refine e_icmp_ge 96 (dt dk_X8_wander 12 rfl) (by decide) (fun h1 => ?_) (fun h1 => ?_)
  · refine e_iconst (v := (0 : Int32)) (dt dk_X8_wander 57 rfl) (by decide) ?_
    refine e_istore_n [some (.ref 8), some (.int (0 : Int32)), none] (dt dk_X8_wander 58 rfl) rfl rfl rfl ?_
    exact e_forget [true, true, false] [some (.ref 8), some (.int (0 : Int32)), none] ⟨rfl, rfl⟩ (ev_lp_X8_wander_8_98 FU (0 : Int32) M)
  · refine e_aload_n (dt dk_X8_wander 13 rfl) rfl ?_
    refine e_getR ci_X8 (dt dk_X8_wander 14 rfl) rfl (by decide) rfl fl_X8_27 ?_
    refine e_iload_n (dt dk_X8_wander 15 rfl) rfl ?_
    refine e_if (fun h5 => ?_)
    refine e_iald' (v := (M 14 (ix v1))) (dt dk_X8_wander 16 rfl) rfl h5 rfl ?_
    refine e_bipush (v := (10 : Int32)) (dt dk_X8_wander 17 rfl) (by decide) ?_
    refine e_icmp_ge 52 (dt dk_X8_wander 18 rfl) (by decide) (fun h6 => ?_) (fun h6 => ?_)
    · exact e_forget [true, true, false] [some (.ref 8), some (.int v1), none] ⟨rfl, rfl⟩ (ev_lb_X8_wander_8_52 K17 hK17 v1 M)
    · refine e_aload_n (dt dk_X8_wander 19 rfl) rfl ?_
      refine e_getR ci_X8 (dt dk_X8_wander 20 rfl) rfl (by decide) rfl fl_X8_21 ?_
      refine e_iload_n (dt dk_X8_wander 21 rfl) rfl ?_
      refine e_if (fun h14 => ?_)
      refine e_iald' (v := (M 12 (ix v1))) (dt dk_X8_wander 22 rfl) rfl h14 rfl ?_
      refine e_if_le 90 (dt dk_X8_wander 23 rfl) (by decide) (fun h15 => ?_) (fun h15 => ?_)
      · refine e_iinc [some (.ref 8), some (.int (v1 + (1 : Int32))), none] (dt dk_X8_wander 55 rfl) rfl rfl rfl rfl ?_
        refine e_goto 17 (dt dk_X8_wander 56 rfl) (by decide) ?_
        exact e_forget [true, true, false] [some (.ref 8), some (.int (v1 + (1 : Int32))), none] ⟨rfl, rfl⟩ (hK17 (v1 + (1 : Int32)) M)
      · refine e_aload_n (dt dk_X8_wander 24 rfl) rfl ?_
        refine e_getR ci_X8 (dt dk_X8_wander 25 rfl) rfl (by decide) rfl fl_X8_27 ?_
        refine e_iload_n (dt dk_X8_wander 26 rfl) rfl ?_
        refine e_if (fun h16 => ?_)
        refine e_iald' (v := (M 14 (ix v1))) (dt dk_X8_wander 27 rfl) rfl h16 rfl ?_
        refine e_if_le 90 (dt dk_X8_wander 28 rfl) (by decide) (fun h17 => ?_) (fun h17 => ?_)
        · refine e_iinc [some (.ref 8), some (.int (v1 + (1 : Int32))), none] (dt dk_X8_wander 55 rfl) rfl rfl rfl rfl ?_
          refine e_goto 17 (dt dk_X8_wander 56 rfl) (by decide) ?_
          exact e_forget [true, true, false] [some (.ref 8), some (.int (v1 + (1 : Int32))), none] ⟨rfl, rfl⟩ (hK17 (v1 + (1 : Int32)) M)
        · exact e_forget [true, true, false] [some (.ref 8), some (.int v1), none] ⟨rfl, rfl⟩ (ev_lb_X8_wander_8_52 K17 hK17 v1 M)
def lp_X8_wander_8_17  : Nat → Int32 → Mem → Option Mem
  | 0 => fun _ _ => none
  | n + 1 => bd_X8_wander_8_17 (lp_X8_wander_8_17 n)
theorem ev_lp_X8_wander_8_17   : ∀ (n : Nat), ∀ (v1 : Int32) (M : Mem), Ev none wV RX8 cX8_wander none 1 17 [some (.ref 8), some (.int v1), none] [] M (lp_X8_wander_8_17 n v1 M)
  | 0 => fun _ _ => e_none
  | n + 1 => ev_bd_X8_wander_8_17 (lp_X8_wander_8_17 n) (ev_lp_X8_wander_8_17 n)
def f_X8_wander_8  (M : Mem) : Option Mem :=
  (lp_X8_wander_8_17 FU (0 : Int32) (upA M 14 (va_cpy (M 9) (M 14) 0 0 8)))
set_option maxRecDepth 20000 in
set_option maxHeartbeats 2000000 in
theorem sp_X8_wander_8  (M : Mem) : SpO wV yX8_wander cX8_wander 3 none 1 [.ref 8] M (f_X8_wander_8 M) := by
  refine sp_of (L := [some (.ref 8), none, none]) rfl (by decide +kernel) rfl rfl ?_
  unfold f_X8_wander_8
  refine e_aload_n (dt dk_X8_wander 0 rfl) rfl ?_
  refine e_getR ci_X8 (dt dk_X8_wander 1 rfl) rfl (by decide) rfl fl_X8_9 ?_
  refine e_iconst (v := (0 : Int32)) (dt dk_X8_wander 2 rfl) (by decide) ?_
  refine e_aload_n (dt dk_X8_wander 3 rfl) rfl ?_
  refine e_getR ci_X8 (dt dk_X8_wander 4 rfl) rfl (by decide) rfl fl_X8_27 ?_
  refine e_iconst (v := (0 : Int32)) (dt dk_X8_wander 5 rfl) (by decide) ?_
  refine e_bipush (v := (8 : Int32)) (dt dk_X8_wander 6 rfl) (by decide) ?_
  refine e_copy ok_copy (dt dk_X8_wander 7 rfl) ml_X8_34 rfl rfl (by decide) (by decide) (by decide) (by decide) (by decide) rfl (by decide) ?_
  show Ev _ _ _ _ _ _ 15 [some (.ref 8), none, none] [] (upA M 14 (va_cpy (M 9) (M 14) 0 0 8)) _
  refine e_iconst (v := (0 : Int32)) (dt dk_X8_wander 8 rfl) (by decide) ?_
  refine e_istore_n [some (.ref 8), some (.int (0 : Int32)), none] (dt dk_X8_wander 9 rfl) rfl rfl rfl ?_
  exact e_forget [true, true, false] [some (.ref 8), some (.int (0 : Int32)), none] ⟨rfl, rfl⟩ (ev_lp_X8_wander_8_17 FU (0 : Int32) (upA M 14 (va_cpy (M 9) (M 14) 0 0 8)))
-- X9_grown (T, depth 1)
def fo_X9_grown (v0 : Int32) (v1 : Int32) : Option Int32 :=
  some (minI (99 : Int32) (v0 + (minI v1 v0)))
def f_X9_grown (v0 : Int32) (v1 : Int32) : Int32 :=
  (minI (99 : Int32) (v0 + (minI v1 v0)))
theorem fe_X9_grown (v0 : Int32) (v1 : Int32) : fo_X9_grown v0 v1 = some (f_X9_grown v0 v1) := by
  unfold fo_X9_grown f_X9_grown
  simp only [apply_ite some]
set_option maxRecDepth 20000 in
set_option maxHeartbeats 2000000 in
theorem sp_X9_grown (v0 : Int32) (v1 : Int32) (M : Mem) : SpO (wR M) yX9_grown cX9_grown 2 (some .int) 1 [.int v0, .int v1] M (some (f_X9_grown v0 v1)) := by
  rw [← fe_X9_grown]
  refine sp_of (L := [some (.int v0), some (.int v1)]) rfl (by decide +kernel) rfl rfl ?_
  unfold fo_X9_grown
  refine e_bipush (v := (99 : Int32)) (dt dk_X9_grown 0 rfl) (by decide) ?_
  refine e_iload_n (dt dk_X9_grown 1 rfl) rfl ?_
  refine e_iload_n (dt dk_X9_grown 2 rfl) rfl ?_
  refine e_iload_n (dt dk_X9_grown 3 rfl) rfl ?_
  refine e_min ok_min (dt dk_X9_grown 4 rfl) ml_X9_262 rfl (by decide) ?_
  show Ev _ _ _ _ _ _ 8 [some (.int v0), some (.int v1)] [.int (minI v1 v0), .int v0, .int (99 : Int32)] M _
  refine e_iadd (dt dk_X9_grown 5 rfl) ?_
  refine e_min ok_min (dt dk_X9_grown 6 rfl) ml_X9_262 rfl (by decide) ?_
  show Ev _ _ _ _ _ _ 12 [some (.int v0), some (.int v1)] [.int (minI (99 : Int32) (v0 + (minI v1 v0)))] M _
  exact e_iret (dt dk_X9_grown 7 rfl) rfl rfl rfl
-- X9_uncaged (T, depth 1)
def fo_X9_uncaged (v0 : Int32) (v1 : Int32) : Option Int32 :=
  some (maxI (0 : Int32) (v0 - v1))
def f_X9_uncaged (v0 : Int32) (v1 : Int32) : Int32 :=
  (maxI (0 : Int32) (v0 - v1))
theorem fe_X9_uncaged (v0 : Int32) (v1 : Int32) : fo_X9_uncaged v0 v1 = some (f_X9_uncaged v0 v1) := by
  unfold fo_X9_uncaged f_X9_uncaged
  simp only [apply_ite some]
set_option maxRecDepth 20000 in
set_option maxHeartbeats 2000000 in
theorem sp_X9_uncaged (v0 : Int32) (v1 : Int32) (M : Mem) : SpO (wR M) yX9_uncaged cX9_uncaged 2 (some .int) 1 [.int v0, .int v1] M (some (f_X9_uncaged v0 v1)) := by
  rw [← fe_X9_uncaged]
  refine sp_of (L := [some (.int v0), some (.int v1)]) rfl (by decide +kernel) rfl rfl ?_
  unfold fo_X9_uncaged
  refine e_iconst (v := (0 : Int32)) (dt dk_X9_uncaged 0 rfl) (by decide) ?_
  refine e_iload_n (dt dk_X9_uncaged 1 rfl) rfl ?_
  refine e_iload_n (dt dk_X9_uncaged 2 rfl) rfl ?_
  refine e_isub (dt dk_X9_uncaged 3 rfl) ?_
  refine e_max ok_max (dt dk_X9_uncaged 4 rfl) ml_X9_265 rfl (by decide) ?_
  show Ev _ _ _ _ _ _ 7 [some (.int v0), some (.int v1)] [.int (maxI (0 : Int32) (v0 - v1))] M _
  exact e_iret (dt dk_X9_uncaged 5 rfl) rfl rfl rfl
-- X8_passWeek_8 (W, depth 2)
def bd_X8_passWeek_8_69  (K69 : Int32 → Mem → Option Mem) (v1 : Int32) (M : Mem) : Option Mem :=
  (if (8 : Int32) ≤ v1 then some (up2 M 8 8 ((M 8 8) + (1 : Int32))) else if inb v1 8 then if inb v1 8 then (K69 (v1 + (1 : Int32)) (up2 M 12 (ix v1) (maxI (0 : Int32) ((M 12 (ix v1)) - (1 : Int32))))) else none else none)
set_option maxRecDepth 20000 in
set_option maxHeartbeats 2000000 in
theorem ev_bd_X8_passWeek_8_69  (K69 : Int32 → Mem → Option Mem)  (hK69 : ∀ (v1 : Int32) (M : Mem), Ev none wV RX8 cX8_passWeek none 2 69 [some (.ref 8), some (.int v1), none] [] M (K69 v1 M)) (v1 : Int32) (M : Mem) : Ev none wV RX8 cX8_passWeek none 2 69 [some (.ref 8), some (.int v1), none] [] M (bd_X8_passWeek_8_69 K69 v1 M) := by
  unfold bd_X8_passWeek_8_69
  refine e_iload_n (dt dk_X8_passWeek 42 rfl) rfl ?_
  refine e_bipush (v := (8 : Int32)) (dt dk_X8_passWeek 43 rfl) (by decide) ?_
  refine e_icmp_ge 99 (dt dk_X8_passWeek 44 rfl) (by decide) (fun h3 => ?_) (fun h3 => ?_)
  · refine e_aload_n (dt dk_X8_passWeek 59 rfl) rfl ?_
    refine e_dup (dt dk_X8_passWeek 60 rfl) rfl ?_
    refine e_getI (v := (M 8 8)) ci_X8 (dt dk_X8_passWeek 61 rfl) rfl (by decide) rfl fl_X8_43 rfl ?_
    refine e_iconst (v := (1 : Int32)) (dt dk_X8_passWeek 62 rfl) (by decide) ?_
    refine e_iadd (dt dk_X8_passWeek 63 rfl) ?_
    refine e_putI (ty := .int) ci_X8 (dt dk_X8_passWeek 64 rfl) rfl (by decide) rfl fl_X8_43 rfl (by decide +kernel) rfl rfl ?_
    exact e_vret (dt dk_X8_passWeek 65 rfl) rfl rfl
  · refine e_aload_n (dt dk_X8_passWeek 45 rfl) rfl ?_
    refine e_getR ci_X8 (dt dk_X8_passWeek 46 rfl) rfl (by decide) rfl fl_X8_21 ?_
    refine e_iload_n (dt dk_X8_passWeek 47 rfl) rfl ?_
    refine e_iconst (v := (0 : Int32)) (dt dk_X8_passWeek 48 rfl) (by decide) ?_
    refine e_aload_n (dt dk_X8_passWeek 49 rfl) rfl ?_
    refine e_getR ci_X8 (dt dk_X8_passWeek 50 rfl) rfl (by decide) rfl fl_X8_21 ?_
    refine e_iload_n (dt dk_X8_passWeek 51 rfl) rfl ?_
    refine e_if (fun h4 => ?_)
    refine e_iald' (v := (M 12 (ix v1))) (dt dk_X8_passWeek 52 rfl) rfl h4 rfl ?_
    refine e_iconst (v := (1 : Int32)) (dt dk_X8_passWeek 53 rfl) (by decide) ?_
    refine e_isub (dt dk_X8_passWeek 54 rfl) ?_
    refine e_max ok_max (dt dk_X8_passWeek 55 rfl) ml_X8_89 rfl (by decide) ?_
    show Ev _ _ _ _ _ _ 92 [some (.ref 8), some (.int v1), none] [.int (maxI (0 : Int32) ((M 12 (ix v1)) - (1 : Int32))), .int v1, .ref 12] M _
    refine e_if (fun h5 => ?_)
    refine e_iast' (dt dk_X8_passWeek 56 rfl) rfl h5 ?_
    refine e_iinc [some (.ref 8), some (.int (v1 + (1 : Int32))), none] (dt dk_X8_passWeek 57 rfl) rfl rfl rfl rfl ?_
    refine e_goto 69 (dt dk_X8_passWeek 58 rfl) (by decide) ?_
    exact e_forget [true, true, false] [some (.ref 8), some (.int (v1 + (1 : Int32))), none] ⟨rfl, rfl⟩ (hK69 (v1 + (1 : Int32)) (up2 M 12 (ix v1) (maxI (0 : Int32) ((M 12 (ix v1)) - (1 : Int32)))))
def lp_X8_passWeek_8_69  : Nat → Int32 → Mem → Option Mem
  | 0 => fun _ _ => none
  | n + 1 => bd_X8_passWeek_8_69 (lp_X8_passWeek_8_69 n)
theorem ev_lp_X8_passWeek_8_69   : ∀ (n : Nat), ∀ (v1 : Int32) (M : Mem), Ev none wV RX8 cX8_passWeek none 2 69 [some (.ref 8), some (.int v1), none] [] M (lp_X8_passWeek_8_69 n v1 M)
  | 0 => fun _ _ => e_none
  | n + 1 => ev_bd_X8_passWeek_8_69 (lp_X8_passWeek_8_69 n) (ev_lp_X8_passWeek_8_69 n)
def bd_X8_passWeek_8_2  (K2 : Int32 → Mem → Option Mem) (v1 : Int32) (M : Mem) : Option Mem :=
  (if (8 : Int32) ≤ v1 then ((f_X8_wander_8 M)).bind fun q2 => (lp_X8_passWeek_8_69 FU (0 : Int32) q2) else if inb v1 8 then if inb v1 8 then if inb v1 8 then if inb v1 8 then if inb v1 8 then (K2 (v1 + (1 : Int32)) (up2 (up2 M 9 (ix v1) (f_X9_uncaged (f_X9_grown (M 9 (ix v1)) (M 10 (ix v1))) (M 11 (ix v1)))) 8 7 ((M 8 7) + ((f_X9_grown (M 9 (ix v1)) (M 10 (ix v1))) - ((up2 M 9 (ix v1) (f_X9_uncaged (f_X9_grown (M 9 (ix v1)) (M 10 (ix v1))) (M 11 (ix v1)))) 9 (ix v1)))))) else none else none else none else none else none)
set_option maxRecDepth 20000 in
set_option maxHeartbeats 2000000 in
theorem ev_bd_X8_passWeek_8_2  (K2 : Int32 → Mem → Option Mem)  (hK2 : ∀ (v1 : Int32) (M : Mem), Ev none wV RX8 cX8_passWeek none 2 2 [some (.ref 8), some (.int v1), none] [] M (K2 v1 M)) (v1 : Int32) (M : Mem) : Ev none wV RX8 cX8_passWeek none 2 2 [some (.ref 8), some (.int v1), none] [] M (bd_X8_passWeek_8_2 K2 v1 M) := by
  unfold bd_X8_passWeek_8_2
  refine e_iload_n (dt dk_X8_passWeek 2 rfl) rfl ?_
  refine e_bipush (v := (8 : Int32)) (dt dk_X8_passWeek 3 rfl) (by decide) ?_
  refine e_icmp_ge 63 (dt dk_X8_passWeek 4 rfl) (by decide) (fun h1 => ?_) (fun h1 => ?_)
  · refine e_aload_n (dt dk_X8_passWeek 38 rfl) rfl ?_
    refine ev_call (ca_V (k := 8) mv_X8_wander (sp_X8_wander_8 M) (dt dk_X8_passWeek 39 rfl) ml_X8_86 rfl rfl rfl rfl rfl (by decide) : Ca _ _ _ _ _ _ _ _ [] _ _) (fun q2 hq2 => ?_)
    show Ev _ _ _ _ _ _ 67 [some (.ref 8), some (.int v1), none] [] q2 _
    refine e_iconst (v := (0 : Int32)) (dt dk_X8_passWeek 40 rfl) (by decide) ?_
    refine e_istore_n [some (.ref 8), some (.int (0 : Int32)), none] (dt dk_X8_passWeek 41 rfl) rfl rfl rfl ?_
    exact e_forget [true, true, false] [some (.ref 8), some (.int (0 : Int32)), none] ⟨rfl, rfl⟩ (ev_lp_X8_passWeek_8_69 FU (0 : Int32) q2)
  · refine e_aload_n (dt dk_X8_passWeek 5 rfl) rfl ?_
    refine e_getR ci_X8 (dt dk_X8_passWeek 6 rfl) rfl (by decide) rfl fl_X8_9 ?_
    refine e_iload_n (dt dk_X8_passWeek 7 rfl) rfl ?_
    refine e_if (fun h6 => ?_)
    refine e_iald' (v := (M 9 (ix v1))) (dt dk_X8_passWeek 8 rfl) rfl h6 rfl ?_
    refine e_aload_n (dt dk_X8_passWeek 9 rfl) rfl ?_
    refine e_getR ci_X8 (dt dk_X8_passWeek 10 rfl) rfl (by decide) rfl fl_X8_15 ?_
    refine e_iload_n (dt dk_X8_passWeek 11 rfl) rfl ?_
    refine e_if (fun h7 => ?_)
    refine e_iald' (v := (M 10 (ix v1))) (dt dk_X8_passWeek 12 rfl) rfl h7 rfl ?_
    refine ev_callT (ca_SN ms_X9_grown (sp_X9_grown (M 9 (ix v1)) (M 10 (ix v1)) M) (dt dk_X8_passWeek 13 rfl) mn_X8_80 rfl rfl rfl (by decide) : Ca _ _ _ _ _ _ _ _ [] _ _) ?_
    show Ev _ _ _ _ _ _ 23 [some (.ref 8), some (.int v1), none] [.int (f_X9_grown (M 9 (ix v1)) (M 10 (ix v1)))] M _
    refine e_istore_n [some (.ref 8), some (.int v1), some (.int (f_X9_grown (M 9 (ix v1)) (M 10 (ix v1))))] (dt dk_X8_passWeek 14 rfl) rfl rfl rfl ?_
    refine e_aload_n (dt dk_X8_passWeek 15 rfl) rfl ?_
    refine e_getR ci_X8 (dt dk_X8_passWeek 16 rfl) rfl (by decide) rfl fl_X8_9 ?_
    refine e_iload_n (dt dk_X8_passWeek 17 rfl) rfl ?_
    refine e_iload_n (dt dk_X8_passWeek 18 rfl) rfl ?_
    refine e_aload_n (dt dk_X8_passWeek 19 rfl) rfl ?_
    refine e_getR ci_X8 (dt dk_X8_passWeek 20 rfl) rfl (by decide) rfl fl_X8_18 ?_
    refine e_iload_n (dt dk_X8_passWeek 21 rfl) rfl ?_
    refine e_if (fun h8 => ?_)
    refine e_iald' (v := (M 11 (ix v1))) (dt dk_X8_passWeek 22 rfl) rfl h8 rfl ?_
    refine ev_callT (ca_SN ms_X9_uncaged (sp_X9_uncaged (f_X9_grown (M 9 (ix v1)) (M 10 (ix v1))) (M 11 (ix v1)) M) (dt dk_X8_passWeek 23 rfl) mn_X8_83 rfl rfl rfl (by decide) : Ca _ _ _ _ _ _ _ _ [.int v1, .ref 9] _ _) ?_
    show Ev _ _ _ _ _ _ 39 [some (.ref 8), some (.int v1), some (.int (f_X9_grown (M 9 (ix v1)) (M 10 (ix v1))))] [.int (f_X9_uncaged (f_X9_grown (M 9 (ix v1)) (M 10 (ix v1))) (M 11 (ix v1))), .int v1, .ref 9] M _
    refine e_if (fun h9 => ?_)
    refine e_iast' (dt dk_X8_passWeek 24 rfl) rfl h9 ?_
    refine e_aload_n (dt dk_X8_passWeek 25 rfl) rfl ?_
    refine e_dup (dt dk_X8_passWeek 26 rfl) rfl ?_
    refine e_getI (v := (M 8 7)) ci_X8 (dt dk_X8_passWeek 27 rfl) rfl (by decide) rfl fl_X8_40 rfl ?_
    refine e_iload_n (dt dk_X8_passWeek 28 rfl) rfl ?_
    refine e_aload_n (dt dk_X8_passWeek 29 rfl) rfl ?_
    refine e_getR ci_X8 (dt dk_X8_passWeek 30 rfl) rfl (by decide) rfl fl_X8_9 ?_
    refine e_iload_n (dt dk_X8_passWeek 31 rfl) rfl ?_
    refine e_if (fun h10 => ?_)
    refine e_iald' (v := ((up2 M 9 (ix v1) (f_X9_uncaged (f_X9_grown (M 9 (ix v1)) (M 10 (ix v1))) (M 11 (ix v1)))) 9 (ix v1))) (dt dk_X8_passWeek 32 rfl) rfl h10 rfl ?_
    refine e_isub (dt dk_X8_passWeek 33 rfl) ?_
    refine e_iadd (dt dk_X8_passWeek 34 rfl) ?_
    refine e_putI (ty := .int) ci_X8 (dt dk_X8_passWeek 35 rfl) rfl (by decide) rfl fl_X8_40 rfl (by decide +kernel) rfl rfl ?_
    refine e_iinc [some (.ref 8), some (.int (v1 + (1 : Int32))), some (.int (f_X9_grown (M 9 (ix v1)) (M 10 (ix v1))))] (dt dk_X8_passWeek 36 rfl) rfl rfl rfl rfl ?_
    refine e_goto 2 (dt dk_X8_passWeek 37 rfl) (by decide) ?_
    exact e_forget [true, true, false] [some (.ref 8), some (.int (v1 + (1 : Int32))), none] ⟨rfl, rfl⟩ (hK2 (v1 + (1 : Int32)) (up2 (up2 M 9 (ix v1) (f_X9_uncaged (f_X9_grown (M 9 (ix v1)) (M 10 (ix v1))) (M 11 (ix v1)))) 8 7 ((M 8 7) + ((f_X9_grown (M 9 (ix v1)) (M 10 (ix v1))) - ((up2 M 9 (ix v1) (f_X9_uncaged (f_X9_grown (M 9 (ix v1)) (M 10 (ix v1))) (M 11 (ix v1)))) 9 (ix v1))))))
def lp_X8_passWeek_8_2  : Nat → Int32 → Mem → Option Mem
  | 0 => fun _ _ => none
  | n + 1 => bd_X8_passWeek_8_2 (lp_X8_passWeek_8_2 n)
theorem ev_lp_X8_passWeek_8_2   : ∀ (n : Nat), ∀ (v1 : Int32) (M : Mem), Ev none wV RX8 cX8_passWeek none 2 2 [some (.ref 8), some (.int v1), none] [] M (lp_X8_passWeek_8_2 n v1 M)
  | 0 => fun _ _ => e_none
  | n + 1 => ev_bd_X8_passWeek_8_2 (lp_X8_passWeek_8_2 n) (ev_lp_X8_passWeek_8_2 n)
def f_X8_passWeek_8  (M : Mem) : Option Mem :=
  (lp_X8_passWeek_8_2 FU (0 : Int32) M)
set_option maxRecDepth 20000 in
set_option maxHeartbeats 2000000 in
theorem sp_X8_passWeek_8  (M : Mem) : SpO wV yX8_passWeek cX8_passWeek 3 none 2 [.ref 8] M (f_X8_passWeek_8 M) := by
  refine sp_of (L := [some (.ref 8), none, none]) rfl (by decide +kernel) rfl rfl ?_
  unfold f_X8_passWeek_8
  refine e_iconst (v := (0 : Int32)) (dt dk_X8_passWeek 0 rfl) (by decide) ?_
  refine e_istore_n [some (.ref 8), some (.int (0 : Int32)), none] (dt dk_X8_passWeek 1 rfl) rfl rfl rfl ?_
  exact e_forget [true, true, false] [some (.ref 8), some (.int (0 : Int32)), none] ⟨rfl, rfl⟩ (ev_lp_X8_passWeek_8_2 FU (0 : Int32) M)
-- X8_take_8_17 (W, depth 3)
def f_X8_take_8_17  (M : Mem) : Option Mem :=
  (if (f_X9_isHouse (M 17 1)) = 0 then some M else (if (M 17 0) = (33 : Int32) then if inb (M 17 1) 8 then if inb (M 17 1) 8 then if inb (M 17 1) 8 then some (up2 (up2 M 9 (ix (M 17 1)) ((M 9 (ix (M 17 1))) / (2 : Int32))) 12 (ix (M 17 1)) (3 : Int32)) else none else none else none else if (M 17 0) = (43 : Int32) then if inb (M 17 1) 8 then if inb (M 17 1) 8 then some (up2 M 10 (ix (M 17 1)) ((M 10 (ix (M 17 1))) + (1 : Int32))) else none else none else if (M 17 0) = (45 : Int32) then if inb (M 17 1) 8 then if inb (M 17 1) 8 then some (up2 M 10 (ix (M 17 1)) ((M 10 (ix (M 17 1))) - (1 : Int32))) else none else none else if (M 17 0) = (94 : Int32) then if inb (M 17 1) 8 then if inb (M 17 1) 8 then some (up2 (up2 M 11 (ix (M 17 1)) ((M 11 (ix (M 17 1))) + (1 : Int32))) 8 6 ((M 8 6) - (1 : Int32))) else none else none else if (M 17 0) = (95 : Int32) then if inb (M 17 1) 8 then if inb (M 17 1) 8 then some (up2 (up2 M 11 (ix (M 17 1)) ((M 11 (ix (M 17 1))) - (1 : Int32))) 8 6 (minI (99 : Int32) ((M 8 6) + (1 : Int32)))) else none else none else if (M 17 0) = (111 : Int32) then ((f_X8_turnHole_8 (M 17 1) (M 17 2) M)).bind fun q19 => some q19 else ((f_X8_passWeek_8 M)).bind fun q20 => some q20))
set_option maxRecDepth 20000 in
set_option maxHeartbeats 2000000 in
theorem sp_X8_take_8_17  (M : Mem) : SpO wV yX8_take cX8_take 3 none 3 [.ref 8, .ref 17] M (f_X8_take_8_17 M) := by
  refine sp_of (L := [some (.ref 8), some (.ref 17), none]) rfl (by decide +kernel) rfl rfl ?_
  unfold f_X8_take_8_17
  refine e_aload_n (dt dk_X8_take 0 rfl) rfl ?_
  refine e_getI (v := (M 17 1)) ci_X0 (dt dk_X8_take 1 rfl) rfl (by decide) rfl fl_X8_56 rfl ?_
  refine e_istore_n [some (.ref 8), some (.ref 17), some (.int (M 17 1))] (dt dk_X8_take 2 rfl) rfl rfl rfl ?_
  refine e_iload_n (dt dk_X8_take 3 rfl) rfl ?_
  refine ev_callT (ca_SN ms_X9_isHouse (sp_X9_isHouse (M 17 1) M) (dt dk_X8_take 4 rfl) mn_X8_46 rfl rfl rfl (by decide) : Ca _ _ _ _ _ _ _ _ [] _ _) ?_
  show Ev _ _ _ _ _ _ 9 [some (.ref 8), some (.ref 17), some (.int (M 17 1))] [.int (f_X9_isHouse (M 17 1))] M _
  refine e_if_ne 13 (dt dk_X8_take 5 rfl) (by decide) (fun h1 => ?_) (fun h1 => ?_)
  · exact e_vret (dt dk_X8_take 6 rfl) rfl rfl
  · refine e_aload_n (dt dk_X8_take 7 rfl) rfl ?_
    refine e_getI (v := (M 17 0)) ci_X0 (dt dk_X8_take 8 rfl) rfl (by decide) rfl fl_X8_61 rfl ?_
    refine e_split (fun h2 => ?_) (fun h2 => ?_)
    · refine e_lookup (off := 136) 153 (dt dk_X8_take 9 rfl) rfl (by rw [h2]; rfl) (by decide) ?_
      refine e_aload_n (dt dk_X8_take 60 rfl) rfl ?_
      refine e_getR ci_X8 (dt dk_X8_take 61 rfl) rfl (by decide) rfl fl_X8_9 ?_
      refine e_iload_n (dt dk_X8_take 62 rfl) rfl ?_
      refine e_dup2 (dt dk_X8_take 63 rfl) rfl rfl ?_
      refine e_if (fun h3 => ?_)
      refine e_iald' (v := (M 9 (ix (M 17 1)))) (dt dk_X8_take 64 rfl) rfl h3 rfl ?_
      refine e_iconst (v := (2 : Int32)) (dt dk_X8_take 65 rfl) (by decide) ?_
      refine e_idiv' (dt dk_X8_take 66 rfl) (by decide) ?_
      show Ev _ _ _ _ _ _ 162 [some (.ref 8), some (.ref 17), some (.int (M 17 1))] [.int ((M 9 (ix (M 17 1))) / (2 : Int32)), .int (M 17 1), .ref 9] M _
      refine e_if (fun h4 => ?_)
      refine e_iast' (dt dk_X8_take 67 rfl) rfl h4 ?_
      refine e_aload_n (dt dk_X8_take 68 rfl) rfl ?_
      refine e_getR ci_X8 (dt dk_X8_take 69 rfl) rfl (by decide) rfl fl_X8_21 ?_
      refine e_iload_n (dt dk_X8_take 70 rfl) rfl ?_
      refine e_iconst (v := (3 : Int32)) (dt dk_X8_take 71 rfl) (by decide) ?_
      refine e_if (fun h5 => ?_)
      refine e_iast' (dt dk_X8_take 72 rfl) rfl h5 ?_
      refine e_goto 189 (dt dk_X8_take 73 rfl) (by decide) ?_
      exact e_vret (dt dk_X8_take 82 rfl) rfl rfl
    · skip
      refine e_split (fun h6 => ?_) (fun h6 => ?_)
      · refine e_lookup (off := 59) 76 (dt dk_X8_take 9 rfl) rfl (by rw [h6]; rfl) (by decide) ?_
        refine e_aload_n (dt dk_X8_take 10 rfl) rfl ?_
        refine e_getR ci_X8 (dt dk_X8_take 11 rfl) rfl (by decide) rfl fl_X8_15 ?_
        refine e_iload_n (dt dk_X8_take 12 rfl) rfl ?_
        refine e_dup2 (dt dk_X8_take 13 rfl) rfl rfl ?_
        refine e_if (fun h7 => ?_)
        refine e_iald' (v := (M 10 (ix (M 17 1)))) (dt dk_X8_take 14 rfl) rfl h7 rfl ?_
        refine e_iconst (v := (1 : Int32)) (dt dk_X8_take 15 rfl) (by decide) ?_
        refine e_iadd (dt dk_X8_take 16 rfl) ?_
        refine e_if (fun h8 => ?_)
        refine e_iast' (dt dk_X8_take 17 rfl) rfl h8 ?_
        refine e_goto 189 (dt dk_X8_take 18 rfl) (by decide) ?_
        exact e_vret (dt dk_X8_take 82 rfl) rfl rfl
      · skip
        refine e_split (fun h9 => ?_) (fun h9 => ?_)
        · refine e_lookup (off := 72) 89 (dt dk_X8_take 9 rfl) rfl (by rw [h9]; rfl) (by decide) ?_
          refine e_aload_n (dt dk_X8_take 19 rfl) rfl ?_
          refine e_getR ci_X8 (dt dk_X8_take 20 rfl) rfl (by decide) rfl fl_X8_15 ?_
          refine e_iload_n (dt dk_X8_take 21 rfl) rfl ?_
          refine e_dup2 (dt dk_X8_take 22 rfl) rfl rfl ?_
          refine e_if (fun h10 => ?_)
          refine e_iald' (v := (M 10 (ix (M 17 1)))) (dt dk_X8_take 23 rfl) rfl h10 rfl ?_
          refine e_iconst (v := (1 : Int32)) (dt dk_X8_take 24 rfl) (by decide) ?_
          refine e_isub (dt dk_X8_take 25 rfl) ?_
          refine e_if (fun h11 => ?_)
          refine e_iast' (dt dk_X8_take 26 rfl) rfl h11 ?_
          refine e_goto 189 (dt dk_X8_take 27 rfl) (by decide) ?_
          exact e_vret (dt dk_X8_take 82 rfl) rfl rfl
        · skip
          refine e_split (fun h12 => ?_) (fun h12 => ?_)
          · refine e_lookup (off := 85) 102 (dt dk_X8_take 9 rfl) rfl (by rw [h12]; rfl) (by decide) ?_
            refine e_aload_n (dt dk_X8_take 28 rfl) rfl ?_
            refine e_getR ci_X8 (dt dk_X8_take 29 rfl) rfl (by decide) rfl fl_X8_18 ?_
            refine e_iload_n (dt dk_X8_take 30 rfl) rfl ?_
            refine e_dup2 (dt dk_X8_take 31 rfl) rfl rfl ?_
            refine e_if (fun h13 => ?_)
            refine e_iald' (v := (M 11 (ix (M 17 1)))) (dt dk_X8_take 32 rfl) rfl h13 rfl ?_
            refine e_iconst (v := (1 : Int32)) (dt dk_X8_take 33 rfl) (by decide) ?_
            refine e_iadd (dt dk_X8_take 34 rfl) ?_
            refine e_if (fun h14 => ?_)
            refine e_iast' (dt dk_X8_take 35 rfl) rfl h14 ?_
            refine e_aload_n (dt dk_X8_take 36 rfl) rfl ?_
            refine e_dup (dt dk_X8_take 37 rfl) rfl ?_
            refine e_getI (v := (M 8 6)) ci_X8 (dt dk_X8_take 38 rfl) rfl (by decide) rfl fl_X8_30 rfl ?_
            refine e_iconst (v := (1 : Int32)) (dt dk_X8_take 39 rfl) (by decide) ?_
            refine e_isub (dt dk_X8_take 40 rfl) ?_
            refine e_putI (ty := .int) ci_X8 (dt dk_X8_take 41 rfl) rfl (by decide) rfl fl_X8_30 rfl (by decide +kernel) rfl rfl ?_
            refine e_goto 189 (dt dk_X8_take 42 rfl) (by decide) ?_
            exact e_vret (dt dk_X8_take 82 rfl) rfl rfl
          · skip
            refine e_split (fun h15 => ?_) (fun h15 => ?_)
            · refine e_lookup (off := 108) 125 (dt dk_X8_take 9 rfl) rfl (by rw [h15]; rfl) (by decide) ?_
              refine e_aload_n (dt dk_X8_take 43 rfl) rfl ?_
              refine e_getR ci_X8 (dt dk_X8_take 44 rfl) rfl (by decide) rfl fl_X8_18 ?_
              refine e_iload_n (dt dk_X8_take 45 rfl) rfl ?_
              refine e_dup2 (dt dk_X8_take 46 rfl) rfl rfl ?_
              refine e_if (fun h16 => ?_)
              refine e_iald' (v := (M 11 (ix (M 17 1)))) (dt dk_X8_take 47 rfl) rfl h16 rfl ?_
              refine e_iconst (v := (1 : Int32)) (dt dk_X8_take 48 rfl) (by decide) ?_
              refine e_isub (dt dk_X8_take 49 rfl) ?_
              refine e_if (fun h17 => ?_)
              refine e_iast' (dt dk_X8_take 50 rfl) rfl h17 ?_
              refine e_aload_n (dt dk_X8_take 51 rfl) rfl ?_
              refine e_bipush (v := (99 : Int32)) (dt dk_X8_take 52 rfl) (by decide) ?_
              refine e_aload_n (dt dk_X8_take 53 rfl) rfl ?_
              refine e_getI (v := (M 8 6)) ci_X8 (dt dk_X8_take 54 rfl) rfl (by decide) rfl fl_X8_30 rfl ?_
              refine e_iconst (v := (1 : Int32)) (dt dk_X8_take 55 rfl) (by decide) ?_
              refine e_iadd (dt dk_X8_take 56 rfl) ?_
              refine e_min ok_min (dt dk_X8_take 57 rfl) ml_X8_67 rfl (by decide) ?_
              show Ev _ _ _ _ _ _ 147 [some (.ref 8), some (.ref 17), some (.int (M 17 1))] [.int (minI (99 : Int32) ((M 8 6) + (1 : Int32))), .ref 8] (up2 M 11 (ix (M 17 1)) ((M 11 (ix (M 17 1))) - (1 : Int32))) _
              refine e_putI (ty := .int) ci_X8 (dt dk_X8_take 58 rfl) rfl (by decide) rfl fl_X8_30 rfl (by decide +kernel) rfl rfl ?_
              refine e_goto 189 (dt dk_X8_take 59 rfl) (by decide) ?_
              exact e_vret (dt dk_X8_take 82 rfl) rfl rfl
            · skip
              refine e_split (fun h18 => ?_) (fun h18 => ?_)
              · refine e_lookup (off := 156) 173 (dt dk_X8_take 9 rfl) rfl (by rw [h18]; rfl) (by decide) ?_
                refine e_aload_n (dt dk_X8_take 74 rfl) rfl ?_
                refine e_iload_n (dt dk_X8_take 75 rfl) rfl ?_
                refine e_aload_n (dt dk_X8_take 76 rfl) rfl ?_
                refine e_getI (v := (M 17 2)) ci_X0 (dt dk_X8_take 77 rfl) rfl (by decide) rfl fl_X8_64 rfl ?_
                refine ev_call (ca_V (k := 8) mv_X8_turnHole (sp_X8_turnHole_8 (M 17 1) (M 17 2) M) (dt dk_X8_take 78 rfl) ml_X8_73 rfl rfl rfl rfl rfl (by decide) : Ca _ _ _ _ _ _ _ _ [] _ _) (fun q19 hq19 => ?_)
                show Ev _ _ _ _ _ _ 182 [some (.ref 8), some (.ref 17), some (.int (M 17 1))] [] q19 _
                refine e_goto 189 (dt dk_X8_take 79 rfl) (by decide) ?_
                exact e_vret (dt dk_X8_take 82 rfl) rfl rfl
              · skip
                refine e_lookup (off := 168) 185 (dt dk_X8_take 9 rfl) rfl ((lv_osw h2 rfl).trans <| (lv_osw h6 rfl).trans <| (lv_osw h9 rfl).trans <| (lv_osw h12 rfl).trans <| (lv_osw h15 rfl).trans <| (lv_osw h18 rfl).trans <| rfl) (by decide) ?_
                refine e_aload_n (dt dk_X8_take 80 rfl) rfl ?_
                refine ev_call (ca_V (k := 8) mv_X8_passWeek (sp_X8_passWeek_8 M) (dt dk_X8_take 81 rfl) ml_X8_77 rfl rfl rfl rfl rfl (by decide) : Ca _ _ _ _ _ _ _ _ [] _ _) (fun q20 hq20 => ?_)
                show Ev _ _ _ _ _ _ 189 [some (.ref 8), some (.ref 17), some (.int (M 17 1))] [] q20 _
                exact e_vret (dt dk_X8_take 82 rfl) rfl rfl
-- X7_noteRid_18 (W, depth 0)
def bd_X7_noteRid_18_22  (K22 : Int32 → Int32 → Mem → Option Mem) (v2 : Int32) (v3 : Int32) (M : Mem) : Option Mem :=
  (if v3 < 0 then some M else (if ((v2 >>> (v3 &&& 31)) &&& (1 : Int32)) = (1 : Int32) then (K22 v2 (v3 + (-1 : Int32)) (up2 M 18 4 v3)) else (K22 v2 (v3 + (-1 : Int32)) M)))
set_option maxRecDepth 20000 in
set_option maxHeartbeats 2000000 in
theorem ev_bd_X7_noteRid_18_22  (K22 : Int32 → Int32 → Mem → Option Mem)  (hK22 : ∀ (v2 : Int32) (v3 : Int32) (M : Mem), Ev none wV RX7 cX7_noteRid none 0 22 [some (.ref 18), none, some (.int v2), some (.int v3)] [] M (K22 v2 v3 M)) (v2 : Int32) (v3 : Int32) (M : Mem) : Ev none wV RX7 cX7_noteRid none 0 22 [some (.ref 18), none, some (.int v2), some (.int v3)] [] M (bd_X7_noteRid_18_22 K22 v2 v3 M) := by
  unfold bd_X7_noteRid_18_22
  refine e_iload_n (dt dk_X7_noteRid 12 rfl) rfl ?_
  refine e_if_lt 46 (dt dk_X7_noteRid 13 rfl) (by decide) (fun h3 => ?_) (fun h3 => ?_)
  · exact e_vret (dt dk_X7_noteRid 26 rfl) rfl rfl
  · refine e_iload_n (dt dk_X7_noteRid 14 rfl) rfl ?_
    refine e_iload_n (dt dk_X7_noteRid 15 rfl) rfl ?_
    refine e_ishr (dt dk_X7_noteRid 16 rfl) ?_
    refine e_iconst (v := (1 : Int32)) (dt dk_X7_noteRid 17 rfl) (by decide) ?_
    refine e_iand (dt dk_X7_noteRid 18 rfl) ?_
    refine e_iconst (v := (1 : Int32)) (dt dk_X7_noteRid 19 rfl) (by decide) ?_
    refine e_icmp_ne 40 (dt dk_X7_noteRid 20 rfl) (by decide) (fun h4 => ?_) (fun h4 => ?_)
    · refine e_aload_n (dt dk_X7_noteRid 21 rfl) rfl ?_
      refine e_iload_n (dt dk_X7_noteRid 22 rfl) rfl ?_
      refine e_putI (ty := .int) ci_X7 (dt dk_X7_noteRid 23 rfl) rfl (by decide) rfl fl_X7_21 rfl (by decide +kernel) rfl rfl ?_
      refine e_iinc [some (.ref 18), none, some (.int v2), some (.int (v3 + (-1 : Int32)))] (dt dk_X7_noteRid 24 rfl) rfl rfl rfl rfl ?_
      refine e_goto 22 (dt dk_X7_noteRid 25 rfl) (by decide) ?_
      exact e_forget [true, false, true, true] [some (.ref 18), none, some (.int v2), some (.int (v3 + (-1 : Int32)))] ⟨rfl, rfl⟩ (hK22 v2 (v3 + (-1 : Int32)) (up2 M 18 4 v3))
    · refine e_iinc [some (.ref 18), none, some (.int v2), some (.int (v3 + (-1 : Int32)))] (dt dk_X7_noteRid 24 rfl) rfl rfl rfl rfl ?_
      refine e_goto 22 (dt dk_X7_noteRid 25 rfl) (by decide) ?_
      exact e_forget [true, false, true, true] [some (.ref 18), none, some (.int v2), some (.int (v3 + (-1 : Int32)))] ⟨rfl, rfl⟩ (hK22 v2 (v3 + (-1 : Int32)) M)
def lp_X7_noteRid_18_22  : Nat → Int32 → Int32 → Mem → Option Mem
  | 0 => fun _ _ _ => none
  | n + 1 => bd_X7_noteRid_18_22 (lp_X7_noteRid_18_22 n)
theorem ev_lp_X7_noteRid_18_22   : ∀ (n : Nat), ∀ (v2 : Int32) (v3 : Int32) (M : Mem), Ev none wV RX7 cX7_noteRid none 0 22 [some (.ref 18), none, some (.int v2), some (.int v3)] [] M (lp_X7_noteRid_18_22 n v2 v3 M)
  | 0 => fun _ _ _ => e_none
  | n + 1 => ev_bd_X7_noteRid_18_22 (lp_X7_noteRid_18_22 n) (ev_lp_X7_noteRid_18_22 n)
def f_X7_noteRid_18 (v1 : Int32) (v2 : Int32) (M : Mem) : Option Mem :=
  (if v2 = 0 then some M else (if (M 18 3) = (-6 : Int32) then (lp_X7_noteRid_18_22 FU v2 (7 : Int32) (up2 M 18 3 v1)) else some M))
set_option maxRecDepth 20000 in
set_option maxHeartbeats 2000000 in
theorem sp_X7_noteRid_18 (v1 : Int32) (v2 : Int32) (M : Mem) : SpO wV yX7_noteRid cX7_noteRid 4 none 0 [.ref 18, .int v1, .int v2] M (f_X7_noteRid_18 v1 v2 M) := by
  refine sp_of (L := [some (.ref 18), some (.int v1), some (.int v2), none]) rfl (by decide +kernel) rfl rfl ?_
  unfold f_X7_noteRid_18
  refine e_iload_n (dt dk_X7_noteRid 0 rfl) rfl ?_
  refine e_if_eq 13 (dt dk_X7_noteRid 1 rfl) (by decide) (fun h1 => ?_) (fun h1 => ?_)
  · exact e_vret (dt dk_X7_noteRid 6 rfl) rfl rfl
  · refine e_aload_n (dt dk_X7_noteRid 2 rfl) rfl ?_
    refine e_getI (v := (M 18 3)) ci_X7 (dt dk_X7_noteRid 3 rfl) rfl (by decide) rfl fl_X7_18 rfl ?_
    refine e_bipush (v := (-6 : Int32)) (dt dk_X7_noteRid 4 rfl) (by decide) ?_
    refine e_icmp_eq 14 (dt dk_X7_noteRid 5 rfl) (by decide) (fun h2 => ?_) (fun h2 => ?_)
    · refine e_aload_n (dt dk_X7_noteRid 7 rfl) rfl ?_
      refine e_iload_n (dt dk_X7_noteRid 8 rfl) rfl ?_
      refine e_putI (ty := .int) ci_X7 (dt dk_X7_noteRid 9 rfl) rfl (by decide) rfl fl_X7_18 rfl (by decide +kernel) rfl rfl ?_
      refine e_bipush (v := (7 : Int32)) (dt dk_X7_noteRid 10 rfl) (by decide) ?_
      refine e_istore_n [some (.ref 18), some (.int v1), some (.int v2), some (.int (7 : Int32))] (dt dk_X7_noteRid 11 rfl) rfl rfl rfl ?_
      exact e_forget [true, false, true, true] [some (.ref 18), none, some (.int v2), some (.int (7 : Int32))] ⟨rfl, rfl⟩ (ev_lp_X7_noteRid_18_22 FU v2 (7 : Int32) (up2 M 18 3 v1))
    · exact e_vret (dt dk_X7_noteRid 6 rfl) rfl rfl
-- X7_follow_18_15_17_8 (W, depth 4)
def bd_X7_follow_18_15_17_8_41  (K41 : Int32 → Int32 → Int32 → Mem → Option Mem) (v4 : Int32) (v5 : Int32) (v6 : Int32) (M : Mem) : Option Mem :=
  (if (60 : Int32) ≤ v6 then some M else (if (M 15 1) ≤ v4 then some M else ((f_X0_read_17_15 v4 M)).bind fun q4 => ((f_X8_whyNot_8_17 q4.2)).bind fun r5 => (if r5 = 0 then ((f_X8_take_8_17 q4.2)).bind fun q7 => ((f_X8_clearHouses_8 q7)).bind fun r8 => ((f_X7_noteRid_18 v6 (r8 &&& (v5 ^^^ (-1 : Int32))) q7)).bind fun q9 => (K41 q4.1 r8 (v6 + (1 : Int32)) (up2 q9 18 0 ((q9 18 0) + (1 : Int32)))) else some (up2 (up2 q4.2 18 1 v6) 18 2 r5))))
set_option maxRecDepth 20000 in
set_option maxHeartbeats 2000000 in
theorem ev_bd_X7_follow_18_15_17_8_41  (K41 : Int32 → Int32 → Int32 → Mem → Option Mem)  (hK41 : ∀ (v4 : Int32) (v5 : Int32) (v6 : Int32) (M : Mem), Ev none wV RX7 cX7_follow none 4 41 [some (.ref 18), some (.ref 15), some (.ref 17), some (.ref 8), some (.int v4), some (.int v5), some (.int v6), none, none] [] M (K41 v4 v5 v6 M)) (v4 : Int32) (v5 : Int32) (v6 : Int32) (M : Mem) : Ev none wV RX7 cX7_follow none 4 41 [some (.ref 18), some (.ref 15), some (.ref 17), some (.ref 8), some (.int v4), some (.int v5), some (.int v6), none, none] [] M (bd_X7_follow_18_15_17_8_41 K41 v4 v5 v6 M) := by
  unfold bd_X7_follow_18_15_17_8_41
  refine e_iload (dt dk_X7_follow 22 rfl) rfl ?_
  refine e_bipush (v := (60 : Int32)) (dt dk_X7_follow 23 rfl) (by decide) ?_
  refine e_icmp_ge 135 (dt dk_X7_follow 24 rfl) (by decide) (fun h2 => ?_) (fun h2 => ?_)
  · exact e_vret (dt dk_X7_follow 71 rfl) rfl rfl
  · refine e_iload (dt dk_X7_follow 25 rfl) rfl ?_
    refine e_aload_n (dt dk_X7_follow 26 rfl) rfl ?_
    refine e_getI (v := (M 15 1)) ci_X5 (dt dk_X7_follow 27 rfl) rfl (by decide) rfl fl_X7_33 rfl ?_
    refine e_icmp_ge 135 (dt dk_X7_follow 28 rfl) (by decide) (fun h3 => ?_) (fun h3 => ?_)
    · exact e_vret (dt dk_X7_follow 71 rfl) rfl rfl
    · refine e_aload_n (dt dk_X7_follow 29 rfl) rfl ?_
      refine e_aload_n (dt dk_X7_follow 30 rfl) rfl ?_
      refine e_iload (dt dk_X7_follow 31 rfl) rfl ?_
      refine ev_call (ca_V (k := 17) mv_X0_read (sp_X0_read_17_15 v4 M) (dt dk_X7_follow 32 rfl) ml_X7_38 rfl rfl rfl rfl rfl (by decide) : Ca _ _ _ _ _ _ _ _ [] _ _) (fun q4 hq4 => ?_)
      show Ev _ _ _ _ _ _ 64 [some (.ref 18), some (.ref 15), some (.ref 17), some (.ref 8), some (.int v4), some (.int v5), some (.int v6), none, none] [.int q4.1] q4.2 _
      refine e_istore [some (.ref 18), some (.ref 15), some (.ref 17), some (.ref 8), some (.int q4.1), some (.int v5), some (.int v6), none, none] (dt dk_X7_follow 33 rfl) rfl rfl rfl ?_
      refine e_aload_n (dt dk_X7_follow 34 rfl) rfl ?_
      refine e_aload_n (dt dk_X7_follow 35 rfl) rfl ?_
      refine ev_call (ca_V (k := 8) mv_X8_whyNot (sp_X8_whyNot_8_17 q4.2) (dt dk_X7_follow 36 rfl) ml_X7_44 rfl rfl rfl rfl rfl (by decide) : Ca _ _ _ _ _ _ _ _ [] _ _) (fun r5 hr5 => ?_)
      show Ev _ _ _ _ _ _ 71 [some (.ref 18), some (.ref 15), some (.ref 17), some (.ref 8), some (.int q4.1), some (.int v5), some (.int v6), none, none] [.int r5] q4.2 _
      refine e_istore [some (.ref 18), some (.ref 15), some (.ref 17), some (.ref 8), some (.int q4.1), some (.int v5), some (.int v6), some (.int r5), none] (dt dk_X7_follow 37 rfl) rfl rfl rfl ?_
      refine e_iload (dt dk_X7_follow 38 rfl) rfl ?_
      refine e_if_eq 91 (dt dk_X7_follow 39 rfl) (by decide) (fun h6 => ?_) (fun h6 => ?_)
      · refine e_aload_n (dt dk_X7_follow 47 rfl) rfl ?_
        refine e_aload_n (dt dk_X7_follow 48 rfl) rfl ?_
        refine ev_call (ca_V (k := 8) mv_X8_take (sp_X8_take_8_17 q4.2) (dt dk_X7_follow 49 rfl) ml_X7_48 rfl rfl rfl rfl rfl (by decide) : Ca _ _ _ _ _ _ _ _ [] _ _) (fun q7 hq7 => ?_)
        show Ev _ _ _ _ _ _ 96 [some (.ref 18), some (.ref 15), some (.ref 17), some (.ref 8), some (.int q4.1), some (.int v5), some (.int v6), some (.int r5), none] [] q7 _
        refine e_aload_n (dt dk_X7_follow 50 rfl) rfl ?_
        refine ev_call (ca_V (k := 8) mv_X8_clearHouses (sp_X8_clearHouses_8 q7) (dt dk_X7_follow 51 rfl) ml_X7_24 rfl rfl rfl rfl rfl (by decide) : Ca _ _ _ _ _ _ _ _ [] _ _) (fun r8 hr8 => ?_)
        show Ev _ _ _ _ _ _ 100 [some (.ref 18), some (.ref 15), some (.ref 17), some (.ref 8), some (.int q4.1), some (.int v5), some (.int v6), some (.int r5), none] [.int r8] q7 _
        refine e_istore [some (.ref 18), some (.ref 15), some (.ref 17), some (.ref 8), some (.int q4.1), some (.int v5), some (.int v6), some (.int r5), some (.int r8)] (dt dk_X7_follow 52 rfl) rfl rfl rfl ?_
        refine e_aload_n (dt dk_X7_follow 53 rfl) rfl ?_
        refine e_iload (dt dk_X7_follow 54 rfl) rfl ?_
        refine e_iload (dt dk_X7_follow 55 rfl) rfl ?_
        refine e_iload (dt dk_X7_follow 56 rfl) rfl ?_
        refine e_iconst (v := (-1 : Int32)) (dt dk_X7_follow 57 rfl) (by decide) ?_
        refine e_ixor (dt dk_X7_follow 58 rfl) ?_
        refine e_iand (dt dk_X7_follow 59 rfl) ?_
        refine ev_call (ca_V (k := 18) mv_X7_noteRid (sp_X7_noteRid_18 v6 (r8 &&& (v5 ^^^ (-1 : Int32))) q7) (dt dk_X7_follow 60 rfl) ml_X7_52 rfl rfl rfl rfl rfl (by decide) : Ca _ _ _ _ _ _ _ _ [] _ _) (fun q9 hq9 => ?_)
        show Ev _ _ _ _ _ _ 115 [some (.ref 18), some (.ref 15), some (.ref 17), some (.ref 8), some (.int q4.1), some (.int v5), some (.int v6), some (.int r5), some (.int r8)] [] q9 _
        refine e_iload (dt dk_X7_follow 61 rfl) rfl ?_
        refine e_istore [some (.ref 18), some (.ref 15), some (.ref 17), some (.ref 8), some (.int q4.1), some (.int r8), some (.int v6), some (.int r5), some (.int r8)] (dt dk_X7_follow 62 rfl) rfl rfl rfl ?_
        refine e_aload_n (dt dk_X7_follow 63 rfl) rfl ?_
        refine e_dup (dt dk_X7_follow 64 rfl) rfl ?_
        refine e_getI (v := (q9 18 0)) ci_X7 (dt dk_X7_follow 65 rfl) rfl (by decide) rfl fl_X7_30 rfl ?_
        refine e_iconst (v := (1 : Int32)) (dt dk_X7_follow 66 rfl) (by decide) ?_
        refine e_iadd (dt dk_X7_follow 67 rfl) ?_
        refine e_putI (ty := .int) ci_X7 (dt dk_X7_follow 68 rfl) rfl (by decide) rfl fl_X7_30 rfl (by decide +kernel) rfl rfl ?_
        refine e_iinc [some (.ref 18), some (.ref 15), some (.ref 17), some (.ref 8), some (.int q4.1), some (.int r8), some (.int (v6 + (1 : Int32))), some (.int r5), some (.int r8)] (dt dk_X7_follow 69 rfl) rfl rfl rfl rfl ?_
        refine e_goto 41 (dt dk_X7_follow 70 rfl) (by decide) ?_
        exact e_forget [true, true, true, true, true, true, true, false, false] [some (.ref 18), some (.ref 15), some (.ref 17), some (.ref 8), some (.int q4.1), some (.int r8), some (.int (v6 + (1 : Int32))), none, none] ⟨rfl, rfl⟩ (hK41 q4.1 r8 (v6 + (1 : Int32)) (up2 q9 18 0 ((q9 18 0) + (1 : Int32))))
      · refine e_aload_n (dt dk_X7_follow 40 rfl) rfl ?_
        refine e_iload (dt dk_X7_follow 41 rfl) rfl ?_
        refine e_putI (ty := .int) ci_X7 (dt dk_X7_follow 42 rfl) rfl (by decide) rfl fl_X7_9 rfl (by decide +kernel) rfl rfl ?_
        refine e_aload_n (dt dk_X7_follow 43 rfl) rfl ?_
        refine e_iload (dt dk_X7_follow 44 rfl) rfl ?_
        refine e_putI (ty := .int) ci_X7 (dt dk_X7_follow 45 rfl) rfl (by decide) rfl fl_X7_15 rfl (by decide +kernel) rfl rfl ?_
        exact e_vret (dt dk_X7_follow 46 rfl) rfl rfl
def lp_X7_follow_18_15_17_8_41  : Nat → Int32 → Int32 → Int32 → Mem → Option Mem
  | 0 => fun _ _ _ _ => none
  | n + 1 => bd_X7_follow_18_15_17_8_41 (lp_X7_follow_18_15_17_8_41 n)
theorem ev_lp_X7_follow_18_15_17_8_41   : ∀ (n : Nat), ∀ (v4 : Int32) (v5 : Int32) (v6 : Int32) (M : Mem), Ev none wV RX7 cX7_follow none 4 41 [some (.ref 18), some (.ref 15), some (.ref 17), some (.ref 8), some (.int v4), some (.int v5), some (.int v6), none, none] [] M (lp_X7_follow_18_15_17_8_41 n v4 v5 v6 M)
  | 0 => fun _ _ _ _ => e_none
  | n + 1 => ev_bd_X7_follow_18_15_17_8_41 (lp_X7_follow_18_15_17_8_41 n) (ev_lp_X7_follow_18_15_17_8_41 n)
def f_X7_follow_18_15_17_8  (M : Mem) : Option Mem :=
  ((f_X8_clearHouses_8 (up2 (up2 (up2 (up2 M 18 1 (-6 : Int32)) 18 2 (-6 : Int32)) 18 3 (-6 : Int32)) 18 4 (-6 : Int32)))).bind fun r1 => (lp_X7_follow_18_15_17_8_41 FU (0 : Int32) r1 (0 : Int32) (up2 (up2 (up2 (up2 (up2 M 18 1 (-6 : Int32)) 18 2 (-6 : Int32)) 18 3 (-6 : Int32)) 18 4 (-6 : Int32)) 18 0 (0 : Int32)))
set_option maxRecDepth 20000 in
set_option maxHeartbeats 2000000 in
theorem sp_X7_follow_18_15_17_8  (M : Mem) : SpO wV yX7_follow cX7_follow 9 none 4 [.ref 18, .ref 15, .ref 17, .ref 8] M (f_X7_follow_18_15_17_8 M) := by
  refine sp_of (L := [some (.ref 18), some (.ref 15), some (.ref 17), some (.ref 8), none, none, none, none, none]) rfl (by decide +kernel) rfl rfl ?_
  unfold f_X7_follow_18_15_17_8
  refine e_aload_n (dt dk_X7_follow 0 rfl) rfl ?_
  refine e_bipush (v := (-6 : Int32)) (dt dk_X7_follow 1 rfl) (by decide) ?_
  refine e_putI (ty := .int) ci_X7 (dt dk_X7_follow 2 rfl) rfl (by decide) rfl fl_X7_9 rfl (by decide +kernel) rfl rfl ?_
  refine e_aload_n (dt dk_X7_follow 3 rfl) rfl ?_
  refine e_bipush (v := (-6 : Int32)) (dt dk_X7_follow 4 rfl) (by decide) ?_
  refine e_putI (ty := .int) ci_X7 (dt dk_X7_follow 5 rfl) rfl (by decide) rfl fl_X7_15 rfl (by decide +kernel) rfl rfl ?_
  refine e_aload_n (dt dk_X7_follow 6 rfl) rfl ?_
  refine e_bipush (v := (-6 : Int32)) (dt dk_X7_follow 7 rfl) (by decide) ?_
  refine e_putI (ty := .int) ci_X7 (dt dk_X7_follow 8 rfl) rfl (by decide) rfl fl_X7_18 rfl (by decide +kernel) rfl rfl ?_
  refine e_aload_n (dt dk_X7_follow 9 rfl) rfl ?_
  refine e_bipush (v := (-6 : Int32)) (dt dk_X7_follow 10 rfl) (by decide) ?_
  refine e_putI (ty := .int) ci_X7 (dt dk_X7_follow 11 rfl) rfl (by decide) rfl fl_X7_21 rfl (by decide +kernel) rfl rfl ?_
  refine e_iconst (v := (0 : Int32)) (dt dk_X7_follow 12 rfl) (by decide) ?_
  refine e_istore [some (.ref 18), some (.ref 15), some (.ref 17), some (.ref 8), some (.int (0 : Int32)), none, none, none, none] (dt dk_X7_follow 13 rfl) rfl rfl rfl ?_
  refine e_aload_n (dt dk_X7_follow 14 rfl) rfl ?_
  refine ev_call (ca_V (k := 8) mv_X8_clearHouses (sp_X8_clearHouses_8 (up2 (up2 (up2 (up2 M 18 1 (-6 : Int32)) 18 2 (-6 : Int32)) 18 3 (-6 : Int32)) 18 4 (-6 : Int32))) (dt dk_X7_follow 15 rfl) ml_X7_24 rfl rfl rfl rfl rfl (by decide) : Ca _ _ _ _ _ _ _ _ [] _ _) (fun r1 hr1 => ?_)
  show Ev _ _ _ _ _ _ 31 [some (.ref 18), some (.ref 15), some (.ref 17), some (.ref 8), some (.int (0 : Int32)), none, none, none, none] [.int r1] (up2 (up2 (up2 (up2 M 18 1 (-6 : Int32)) 18 2 (-6 : Int32)) 18 3 (-6 : Int32)) 18 4 (-6 : Int32)) _
  refine e_istore [some (.ref 18), some (.ref 15), some (.ref 17), some (.ref 8), some (.int (0 : Int32)), some (.int r1), none, none, none] (dt dk_X7_follow 16 rfl) rfl rfl rfl ?_
  refine e_aload_n (dt dk_X7_follow 17 rfl) rfl ?_
  refine e_iconst (v := (0 : Int32)) (dt dk_X7_follow 18 rfl) (by decide) ?_
  refine e_putI (ty := .int) ci_X7 (dt dk_X7_follow 19 rfl) rfl (by decide) rfl fl_X7_30 rfl (by decide +kernel) rfl rfl ?_
  refine e_iconst (v := (0 : Int32)) (dt dk_X7_follow 20 rfl) (by decide) ?_
  refine e_istore [some (.ref 18), some (.ref 15), some (.ref 17), some (.ref 8), some (.int (0 : Int32)), some (.int r1), some (.int (0 : Int32)), none, none] (dt dk_X7_follow 21 rfl) rfl rfl rfl ?_
  exact e_forget [true, true, true, true, true, true, true, false, false] [some (.ref 18), some (.ref 15), some (.ref 17), some (.ref 8), some (.int (0 : Int32)), some (.int r1), some (.int (0 : Int32)), none, none] ⟨rfl, rfl⟩ (ev_lp_X7_follow_18_15_17_8_41 FU (0 : Int32) r1 (0 : Int32) (up2 (up2 (up2 (up2 (up2 M 18 1 (-6 : Int32)) 18 2 (-6 : Int32)) 18 3 (-6 : Int32)) 18 4 (-6 : Int32)) 18 0 (0 : Int32)))
-- X8_ofHouse_8 (R, depth 1)
def f_X8_ofHouse_8 (v1 : Int32) (v2 : Int32) (M : Mem) : Option Int32 :=
  (if (f_X9_isHouse v1) = 0 then some (-1 : Int32) else (if v2 = (0 : Int32) then if inb v1 8 then some (M 9 (ix v1)) else none else if v2 = (1 : Int32) then if inb v1 8 then some (M 10 (ix v1)) else none else if v2 = (2 : Int32) then if inb v1 8 then some (M 11 (ix v1)) else none else if inb v1 8 then some (M 12 (ix v1)) else none))
set_option maxRecDepth 20000 in
set_option maxHeartbeats 2000000 in
theorem sp_X8_ofHouse_8 (v1 : Int32) (v2 : Int32) (M : Mem) : SpO (wR M) yX8_ofHouse cX8_ofHouse 3 (some .int) 1 [.ref 8, .int v1, .int v2] M (f_X8_ofHouse_8 v1 v2 M) := by
  refine sp_of (L := [some (.ref 8), some (.int v1), some (.int v2)]) rfl (by decide +kernel) rfl rfl ?_
  unfold f_X8_ofHouse_8
  refine e_iload_n (dt dk_X8_ofHouse 0 rfl) rfl ?_
  refine ev_callT (ca_SN ms_X9_isHouse (sp_X9_isHouse v1 M) (dt dk_X8_ofHouse 1 rfl) mn_X8_46 rfl rfl rfl (by decide) : Ca _ _ _ _ _ _ _ _ [] _ _) ?_
  show Ev _ _ _ _ _ _ 4 [some (.ref 8), some (.int v1), some (.int v2)] [.int (f_X9_isHouse v1)] M _
  refine e_if_ne 9 (dt dk_X8_ofHouse 2 rfl) (by decide) (fun h1 => ?_) (fun h1 => ?_)
  · refine e_iconst (v := (-1 : Int32)) (dt dk_X8_ofHouse 3 rfl) (by decide) ?_
    exact e_iret (dt dk_X8_ofHouse 4 rfl) rfl rfl rfl
  · refine e_iload_n (dt dk_X8_ofHouse 5 rfl) rfl ?_
    refine e_split (fun h2 => ?_) (fun h2 => ?_)
    · refine e_tableIn 36 (dt dk_X8_ofHouse 6 rfl) (by rw [h2]; decide) (by rw [h2]; decide) (by rw [h2]; rfl) (by decide) ?_
      refine e_aload_n (dt dk_X8_ofHouse 7 rfl) rfl ?_
      refine e_getR ci_X8 (dt dk_X8_ofHouse 8 rfl) rfl (by decide) rfl fl_X8_9 ?_
      refine e_iload_n (dt dk_X8_ofHouse 9 rfl) rfl ?_
      refine e_if (fun h3 => ?_)
      refine e_iald' (v := (M 9 (ix v1))) (dt dk_X8_ofHouse 10 rfl) rfl h3 rfl ?_
      exact e_iret (dt dk_X8_ofHouse 11 rfl) rfl rfl rfl
    · skip
      refine e_split (fun h4 => ?_) (fun h4 => ?_)
      · refine e_tableIn 43 (dt dk_X8_ofHouse 6 rfl) (by rw [h4]; decide) (by rw [h4]; decide) (by rw [h4]; rfl) (by decide) ?_
        refine e_aload_n (dt dk_X8_ofHouse 12 rfl) rfl ?_
        refine e_getR ci_X8 (dt dk_X8_ofHouse 13 rfl) rfl (by decide) rfl fl_X8_15 ?_
        refine e_iload_n (dt dk_X8_ofHouse 14 rfl) rfl ?_
        refine e_if (fun h5 => ?_)
        refine e_iald' (v := (M 10 (ix v1))) (dt dk_X8_ofHouse 15 rfl) rfl h5 rfl ?_
        exact e_iret (dt dk_X8_ofHouse 16 rfl) rfl rfl rfl
      · skip
        refine e_split (fun h6 => ?_) (fun h6 => ?_)
        · refine e_tableIn 50 (dt dk_X8_ofHouse 6 rfl) (by rw [h6]; decide) (by rw [h6]; decide) (by rw [h6]; rfl) (by decide) ?_
          refine e_aload_n (dt dk_X8_ofHouse 17 rfl) rfl ?_
          refine e_getR ci_X8 (dt dk_X8_ofHouse 18 rfl) rfl (by decide) rfl fl_X8_18 ?_
          refine e_iload_n (dt dk_X8_ofHouse 19 rfl) rfl ?_
          refine e_if (fun h7 => ?_)
          refine e_iald' (v := (M 11 (ix v1))) (dt dk_X8_ofHouse 20 rfl) rfl h7 rfl ?_
          exact e_iret (dt dk_X8_ofHouse 21 rfl) rfl rfl rfl
        · skip
          refine e_tableOut 57 (dt dk_X8_ofHouse 6 rfl) (sw_out 2 (by simp only [List.range, List.range.loop, List.all_cons, List.all_nil]; simp [h2, h4, h6])) (by decide) ?_
          refine e_aload_n (dt dk_X8_ofHouse 22 rfl) rfl ?_
          refine e_getR ci_X8 (dt dk_X8_ofHouse 23 rfl) rfl (by decide) rfl fl_X8_21 ?_
          refine e_iload_n (dt dk_X8_ofHouse 24 rfl) rfl ?_
          refine e_if (fun h8 => ?_)
          refine e_iald' (v := (M 12 (ix v1))) (dt dk_X8_ofHouse 25 rfl) rfl h8 rfl ?_
          exact e_iret (dt dk_X8_ofHouse 26 rfl) rfl rfl rfl
-- X8_allDoubts_8 (R, depth 0)
def bd_X8_allDoubts_8_4 (M : Mem)  (K4 : Int32 → Int32 → Option Int32) (v1 : Int32) (v2 : Int32) : Option Int32 :=
  (if (8 : Int32) ≤ v2 then some v1 else if inb v2 8 then (K4 (v1 + (M 9 (ix v2))) (v2 + (1 : Int32))) else none)
set_option maxRecDepth 20000 in
set_option maxHeartbeats 2000000 in
theorem ev_bd_X8_allDoubts_8_4 (M : Mem)  (K4 : Int32 → Int32 → Option Int32)  (hK4 : ∀ (v1 : Int32) (v2 : Int32), Ev none (wR M) RX8 cX8_allDoubts (some .int) 0 4 [some (.ref 8), some (.int v1), some (.int v2)] [] M (K4 v1 v2)) (v1 : Int32) (v2 : Int32) : Ev none (wR M) RX8 cX8_allDoubts (some .int) 0 4 [some (.ref 8), some (.int v1), some (.int v2)] [] M (bd_X8_allDoubts_8_4 M K4 v1 v2) := by
  unfold bd_X8_allDoubts_8_4
  refine e_iload_n (dt dk_X8_allDoubts 4 rfl) rfl ?_
  refine e_bipush (v := (8 : Int32)) (dt dk_X8_allDoubts 5 rfl) (by decide) ?_
  refine e_icmp_ge 25 (dt dk_X8_allDoubts 6 rfl) (by decide) (fun h1 => ?_) (fun h1 => ?_)
  · refine e_iload_n (dt dk_X8_allDoubts 16 rfl) rfl ?_
    exact e_iret (dt dk_X8_allDoubts 17 rfl) rfl rfl rfl
  · refine e_iload_n (dt dk_X8_allDoubts 7 rfl) rfl ?_
    refine e_aload_n (dt dk_X8_allDoubts 8 rfl) rfl ?_
    refine e_getR ci_X8 (dt dk_X8_allDoubts 9 rfl) rfl (by decide) rfl fl_X8_9 ?_
    refine e_iload_n (dt dk_X8_allDoubts 10 rfl) rfl ?_
    refine e_if (fun h2 => ?_)
    refine e_iald' (v := (M 9 (ix v2))) (dt dk_X8_allDoubts 11 rfl) rfl h2 rfl ?_
    refine e_iadd (dt dk_X8_allDoubts 12 rfl) ?_
    refine e_istore_n [some (.ref 8), some (.int (v1 + (M 9 (ix v2)))), some (.int v2)] (dt dk_X8_allDoubts 13 rfl) rfl rfl rfl ?_
    refine e_iinc [some (.ref 8), some (.int (v1 + (M 9 (ix v2)))), some (.int (v2 + (1 : Int32)))] (dt dk_X8_allDoubts 14 rfl) rfl rfl rfl rfl ?_
    refine e_goto 4 (dt dk_X8_allDoubts 15 rfl) (by decide) ?_
    exact e_forget [true, true, true] [some (.ref 8), some (.int (v1 + (M 9 (ix v2)))), some (.int (v2 + (1 : Int32)))] ⟨rfl, rfl⟩ (hK4 (v1 + (M 9 (ix v2))) (v2 + (1 : Int32)))
def lp_X8_allDoubts_8_4 (M : Mem)  : Nat → Int32 → Int32 → Option Int32
  | 0 => fun _ _ => none
  | n + 1 => bd_X8_allDoubts_8_4 M (lp_X8_allDoubts_8_4 M n)
theorem ev_lp_X8_allDoubts_8_4 (M : Mem)   : ∀ (n : Nat), ∀ (v1 : Int32) (v2 : Int32), Ev none (wR M) RX8 cX8_allDoubts (some .int) 0 4 [some (.ref 8), some (.int v1), some (.int v2)] [] M (lp_X8_allDoubts_8_4 M n v1 v2)
  | 0 => fun _ _ => e_none
  | n + 1 => ev_bd_X8_allDoubts_8_4 M (lp_X8_allDoubts_8_4 M n) (ev_lp_X8_allDoubts_8_4 M n)
def f_X8_allDoubts_8  (M : Mem) : Option Int32 :=
  (lp_X8_allDoubts_8_4 M FU (0 : Int32) (0 : Int32))
set_option maxRecDepth 20000 in
set_option maxHeartbeats 2000000 in
theorem sp_X8_allDoubts_8  (M : Mem) : SpO (wR M) yX8_allDoubts cX8_allDoubts 3 (some .int) 0 [.ref 8] M (f_X8_allDoubts_8 M) := by
  refine sp_of (L := [some (.ref 8), none, none]) rfl (by decide +kernel) rfl rfl ?_
  unfold f_X8_allDoubts_8
  refine e_iconst (v := (0 : Int32)) (dt dk_X8_allDoubts 0 rfl) (by decide) ?_
  refine e_istore_n [some (.ref 8), some (.int (0 : Int32)), none] (dt dk_X8_allDoubts 1 rfl) rfl rfl rfl ?_
  refine e_iconst (v := (0 : Int32)) (dt dk_X8_allDoubts 2 rfl) (by decide) ?_
  refine e_istore_n [some (.ref 8), some (.int (0 : Int32)), some (.int (0 : Int32))] (dt dk_X8_allDoubts 3 rfl) rfl rfl rfl ?_
  exact e_forget [true, true, true] [some (.ref 8), some (.int (0 : Int32)), some (.int (0 : Int32))] ⟨rfl, rfl⟩ (ev_lp_X8_allDoubts_8_4 M FU (0 : Int32) (0 : Int32))
-- X8_become_1_8 (W, depth 1)
def f_X8_become_1_8  (M : Mem) : Option Mem :=
  some (up2 (up2 (up2 (upA (upA (upA (upA (upA M 2 (va_cpy (M 9) (M 2) 0 0 8)) 3 (va_cpy (M 10) (M 3) 0 0 8)) 4 (va_cpy (M 11) (M 4) 0 0 8)) 5 (va_cpy (M 12) (M 5) 0 0 8)) 6 (va_cpy (M 13) (M 6) 0 0 8)) 1 6 (M 8 6)) 1 7 (M 8 7)) 1 8 (M 8 8))
set_option maxRecDepth 20000 in
set_option maxHeartbeats 2000000 in
theorem sp_X8_become_1_8  (M : Mem) : SpO wV yX8_become cX8_become 2 none 1 [.ref 1, .ref 8] M (f_X8_become_1_8 M) := by
  refine sp_of (L := [some (.ref 1), some (.ref 8)]) rfl (by decide +kernel) rfl rfl ?_
  unfold f_X8_become_1_8
  refine e_aload_n (dt dk_X8_become 0 rfl) rfl ?_
  refine e_getR ci_X8 (dt dk_X8_become 1 rfl) rfl (by decide) rfl fl_X8_9 ?_
  refine e_iconst (v := (0 : Int32)) (dt dk_X8_become 2 rfl) (by decide) ?_
  refine e_aload_n (dt dk_X8_become 3 rfl) rfl ?_
  refine e_getR ci_X8 (dt dk_X8_become 4 rfl) rfl (by decide) rfl fl_X8_9 ?_
  refine e_iconst (v := (0 : Int32)) (dt dk_X8_become 5 rfl) (by decide) ?_
  refine e_bipush (v := (8 : Int32)) (dt dk_X8_become 6 rfl) (by decide) ?_
  refine e_copy ok_copy (dt dk_X8_become 7 rfl) ml_X8_34 rfl rfl (by decide) (by decide) (by decide) (by decide) (by decide) rfl (by decide) ?_
  show Ev _ _ _ _ _ _ 15 [some (.ref 1), some (.ref 8)] [] (upA M 2 (va_cpy (M 9) (M 2) 0 0 8)) _
  refine e_aload_n (dt dk_X8_become 8 rfl) rfl ?_
  refine e_getR ci_X8 (dt dk_X8_become 9 rfl) rfl (by decide) rfl fl_X8_15 ?_
  refine e_iconst (v := (0 : Int32)) (dt dk_X8_become 10 rfl) (by decide) ?_
  refine e_aload_n (dt dk_X8_become 11 rfl) rfl ?_
  refine e_getR ci_X8 (dt dk_X8_become 12 rfl) rfl (by decide) rfl fl_X8_15 ?_
  refine e_iconst (v := (0 : Int32)) (dt dk_X8_become 13 rfl) (by decide) ?_
  refine e_bipush (v := (8 : Int32)) (dt dk_X8_become 14 rfl) (by decide) ?_
  refine e_copy ok_copy (dt dk_X8_become 15 rfl) ml_X8_34 rfl rfl (by decide) (by decide) (by decide) (by decide) (by decide) rfl (by decide) ?_
  show Ev _ _ _ _ _ _ 30 [some (.ref 1), some (.ref 8)] [] (upA (upA M 2 (va_cpy (M 9) (M 2) 0 0 8)) 3 (va_cpy (M 10) (M 3) 0 0 8)) _
  refine e_aload_n (dt dk_X8_become 16 rfl) rfl ?_
  refine e_getR ci_X8 (dt dk_X8_become 17 rfl) rfl (by decide) rfl fl_X8_18 ?_
  refine e_iconst (v := (0 : Int32)) (dt dk_X8_become 18 rfl) (by decide) ?_
  refine e_aload_n (dt dk_X8_become 19 rfl) rfl ?_
  refine e_getR ci_X8 (dt dk_X8_become 20 rfl) rfl (by decide) rfl fl_X8_18 ?_
  refine e_iconst (v := (0 : Int32)) (dt dk_X8_become 21 rfl) (by decide) ?_
  refine e_bipush (v := (8 : Int32)) (dt dk_X8_become 22 rfl) (by decide) ?_
  refine e_copy ok_copy (dt dk_X8_become 23 rfl) ml_X8_34 rfl rfl (by decide) (by decide) (by decide) (by decide) (by decide) rfl (by decide) ?_
  show Ev _ _ _ _ _ _ 45 [some (.ref 1), some (.ref 8)] [] (upA (upA (upA M 2 (va_cpy (M 9) (M 2) 0 0 8)) 3 (va_cpy (M 10) (M 3) 0 0 8)) 4 (va_cpy (M 11) (M 4) 0 0 8)) _
  refine e_aload_n (dt dk_X8_become 24 rfl) rfl ?_
  refine e_getR ci_X8 (dt dk_X8_become 25 rfl) rfl (by decide) rfl fl_X8_21 ?_
  refine e_iconst (v := (0 : Int32)) (dt dk_X8_become 26 rfl) (by decide) ?_
  refine e_aload_n (dt dk_X8_become 27 rfl) rfl ?_
  refine e_getR ci_X8 (dt dk_X8_become 28 rfl) rfl (by decide) rfl fl_X8_21 ?_
  refine e_iconst (v := (0 : Int32)) (dt dk_X8_become 29 rfl) (by decide) ?_
  refine e_bipush (v := (8 : Int32)) (dt dk_X8_become 30 rfl) (by decide) ?_
  refine e_copy ok_copy (dt dk_X8_become 31 rfl) ml_X8_34 rfl rfl (by decide) (by decide) (by decide) (by decide) (by decide) rfl (by decide) ?_
  show Ev _ _ _ _ _ _ 60 [some (.ref 1), some (.ref 8)] [] (upA (upA (upA (upA M 2 (va_cpy (M 9) (M 2) 0 0 8)) 3 (va_cpy (M 10) (M 3) 0 0 8)) 4 (va_cpy (M 11) (M 4) 0 0 8)) 5 (va_cpy (M 12) (M 5) 0 0 8)) _
  refine e_aload_n (dt dk_X8_become 32 rfl) rfl ?_
  refine e_getR ci_X8 (dt dk_X8_become 33 rfl) rfl (by decide) rfl fl_X8_24 ?_
  refine e_iconst (v := (0 : Int32)) (dt dk_X8_become 34 rfl) (by decide) ?_
  refine e_aload_n (dt dk_X8_become 35 rfl) rfl ?_
  refine e_getR ci_X8 (dt dk_X8_become 36 rfl) rfl (by decide) rfl fl_X8_24 ?_
  refine e_iconst (v := (0 : Int32)) (dt dk_X8_become 37 rfl) (by decide) ?_
  refine e_bipush (v := (8 : Int32)) (dt dk_X8_become 38 rfl) (by decide) ?_
  refine e_copy ok_copy (dt dk_X8_become 39 rfl) ml_X8_34 rfl rfl (by decide) (by decide) (by decide) (by decide) (by decide) rfl (by decide) ?_
  show Ev _ _ _ _ _ _ 75 [some (.ref 1), some (.ref 8)] [] (upA (upA (upA (upA (upA M 2 (va_cpy (M 9) (M 2) 0 0 8)) 3 (va_cpy (M 10) (M 3) 0 0 8)) 4 (va_cpy (M 11) (M 4) 0 0 8)) 5 (va_cpy (M 12) (M 5) 0 0 8)) 6 (va_cpy (M 13) (M 6) 0 0 8)) _
  refine e_aload_n (dt dk_X8_become 40 rfl) rfl ?_
  refine e_aload_n (dt dk_X8_become 41 rfl) rfl ?_
  refine e_getI (v := (M 8 6)) ci_X8 (dt dk_X8_become 42 rfl) rfl (by decide) rfl fl_X8_30 rfl ?_
  refine e_putI (ty := .int) ci_X8 (dt dk_X8_become 43 rfl) rfl (by decide) rfl fl_X8_30 rfl (by decide +kernel) rfl rfl ?_
  refine e_aload_n (dt dk_X8_become 44 rfl) rfl ?_
  refine e_aload_n (dt dk_X8_become 45 rfl) rfl ?_
  refine e_getI (v := (M 8 7)) ci_X8 (dt dk_X8_become 46 rfl) rfl (by decide) rfl fl_X8_40 rfl ?_
  refine e_putI (ty := .int) ci_X8 (dt dk_X8_become 47 rfl) rfl (by decide) rfl fl_X8_40 rfl (by decide +kernel) rfl rfl ?_
  refine e_aload_n (dt dk_X8_become 48 rfl) rfl ?_
  refine e_aload_n (dt dk_X8_become 49 rfl) rfl ?_
  refine e_getI (v := (M 8 8)) ci_X8 (dt dk_X8_become 50 rfl) rfl (by decide) rfl fl_X8_43 rfl ?_
  refine e_putI (ty := .int) ci_X8 (dt dk_X8_become 51 rfl) rfl (by decide) rfl fl_X8_43 rfl (by decide +kernel) rfl rfl ?_
  exact e_vret (dt dk_X8_become 52 rfl) rfl rfl
-- X8_holesAllMeet_1 (R, depth 0)
def bd_X8_holesAllMeet_1_2 (M : Mem)  (K2 : Int32 → Int32 → Option Int32) (v1 : Int32) (v2 : Int32) : Option Int32 :=
  (if (8 : Int32) ≤ v2 then some (1 : Int32) else (if ((v1 >>> (v2 &&& 31)) &&& (1 : Int32)) = 0 then if inb v2 8 then (if ((M 6 (ix v2)) &&& (v1 ^^^ (-1 : Int32))) = 0 then (K2 v1 (v2 + (1 : Int32))) else some (0 : Int32)) else none else (K2 v1 (v2 + (1 : Int32)))))
set_option maxRecDepth 20000 in
set_option maxHeartbeats 2000000 in
theorem ev_bd_X8_holesAllMeet_1_2 (M : Mem)  (K2 : Int32 → Int32 → Option Int32)  (hK2 : ∀ (v1 : Int32) (v2 : Int32), Ev none (wR M) RX8 cX8_holesAllMeet (some .boolean) 0 2 [some (.ref 1), some (.int v1), some (.int v2)] [] M (K2 v1 v2)) (v1 : Int32) (v2 : Int32) : Ev none (wR M) RX8 cX8_holesAllMeet (some .boolean) 0 2 [some (.ref 1), some (.int v1), some (.int v2)] [] M (bd_X8_holesAllMeet_1_2 M K2 v1 v2) := by
  unfold bd_X8_holesAllMeet_1_2
  refine e_iload_n (dt dk_X8_holesAllMeet 2 rfl) rfl ?_
  refine e_bipush (v := (8 : Int32)) (dt dk_X8_holesAllMeet 3 rfl) (by decide) ?_
  refine e_icmp_ge 37 (dt dk_X8_holesAllMeet 4 rfl) (by decide) (fun h1 => ?_) (fun h1 => ?_)
  · refine e_iconst (v := (1 : Int32)) (dt dk_X8_holesAllMeet 24 rfl) (by decide) ?_
    exact e_iret (dt dk_X8_holesAllMeet 25 rfl) rfl rfl rfl
  · refine e_iload_n (dt dk_X8_holesAllMeet 5 rfl) rfl ?_
    refine e_iload_n (dt dk_X8_holesAllMeet 6 rfl) rfl ?_
    refine e_ishr (dt dk_X8_holesAllMeet 7 rfl) ?_
    refine e_iconst (v := (1 : Int32)) (dt dk_X8_holesAllMeet 8 rfl) (by decide) ?_
    refine e_iand (dt dk_X8_holesAllMeet 9 rfl) ?_
    refine e_if_ne 31 (dt dk_X8_holesAllMeet 10 rfl) (by decide) (fun h2 => ?_) (fun h2 => ?_)
    · refine e_aload_n (dt dk_X8_holesAllMeet 11 rfl) rfl ?_
      refine e_getR ci_X8 (dt dk_X8_holesAllMeet 12 rfl) rfl (by decide) rfl fl_X8_24 ?_
      refine e_iload_n (dt dk_X8_holesAllMeet 13 rfl) rfl ?_
      refine e_if (fun h3 => ?_)
      refine e_iald' (v := (M 6 (ix v2))) (dt dk_X8_holesAllMeet 14 rfl) rfl h3 rfl ?_
      refine e_iload_n (dt dk_X8_holesAllMeet 15 rfl) rfl ?_
      refine e_iconst (v := (-1 : Int32)) (dt dk_X8_holesAllMeet 16 rfl) (by decide) ?_
      refine e_ixor (dt dk_X8_holesAllMeet 17 rfl) ?_
      refine e_iand (dt dk_X8_holesAllMeet 18 rfl) ?_
      refine e_if_eq 31 (dt dk_X8_holesAllMeet 19 rfl) (by decide) (fun h4 => ?_) (fun h4 => ?_)
      · refine e_iinc [some (.ref 1), some (.int v1), some (.int (v2 + (1 : Int32)))] (dt dk_X8_holesAllMeet 22 rfl) rfl rfl rfl rfl ?_
        refine e_goto 2 (dt dk_X8_holesAllMeet 23 rfl) (by decide) ?_
        exact e_forget [true, true, true] [some (.ref 1), some (.int v1), some (.int (v2 + (1 : Int32)))] ⟨rfl, rfl⟩ (hK2 v1 (v2 + (1 : Int32)))
      · refine e_iconst (v := (0 : Int32)) (dt dk_X8_holesAllMeet 20 rfl) (by decide) ?_
        exact e_iret (dt dk_X8_holesAllMeet 21 rfl) rfl rfl rfl
    · refine e_iinc [some (.ref 1), some (.int v1), some (.int (v2 + (1 : Int32)))] (dt dk_X8_holesAllMeet 22 rfl) rfl rfl rfl rfl ?_
      refine e_goto 2 (dt dk_X8_holesAllMeet 23 rfl) (by decide) ?_
      exact e_forget [true, true, true] [some (.ref 1), some (.int v1), some (.int (v2 + (1 : Int32)))] ⟨rfl, rfl⟩ (hK2 v1 (v2 + (1 : Int32)))
def lp_X8_holesAllMeet_1_2 (M : Mem)  : Nat → Int32 → Int32 → Option Int32
  | 0 => fun _ _ => none
  | n + 1 => bd_X8_holesAllMeet_1_2 M (lp_X8_holesAllMeet_1_2 M n)
theorem ev_lp_X8_holesAllMeet_1_2 (M : Mem)   : ∀ (n : Nat), ∀ (v1 : Int32) (v2 : Int32), Ev none (wR M) RX8 cX8_holesAllMeet (some .boolean) 0 2 [some (.ref 1), some (.int v1), some (.int v2)] [] M (lp_X8_holesAllMeet_1_2 M n v1 v2)
  | 0 => fun _ _ => e_none
  | n + 1 => ev_bd_X8_holesAllMeet_1_2 M (lp_X8_holesAllMeet_1_2 M n) (ev_lp_X8_holesAllMeet_1_2 M n)
def f_X8_holesAllMeet_1 (v1 : Int32) (M : Mem) : Option Int32 :=
  (lp_X8_holesAllMeet_1_2 M FU v1 (0 : Int32))
set_option maxRecDepth 20000 in
set_option maxHeartbeats 2000000 in
theorem sp_X8_holesAllMeet_1 (v1 : Int32) (M : Mem) : SpO (wR M) yX8_holesAllMeet cX8_holesAllMeet 3 (some .boolean) 0 [.ref 1, .int v1] M (f_X8_holesAllMeet_1 v1 M) := by
  refine sp_of (L := [some (.ref 1), some (.int v1), none]) rfl (by decide +kernel) rfl rfl ?_
  unfold f_X8_holesAllMeet_1
  refine e_iconst (v := (0 : Int32)) (dt dk_X8_holesAllMeet 0 rfl) (by decide) ?_
  refine e_istore_n [some (.ref 1), some (.int v1), some (.int (0 : Int32))] (dt dk_X8_holesAllMeet 1 rfl) rfl rfl rfl ?_
  exact e_forget [true, true, true] [some (.ref 1), some (.int v1), some (.int (0 : Int32))] ⟨rfl, rfl⟩ (ev_lp_X8_holesAllMeet_1_2 M FU v1 (0 : Int32))
-- X2_offer_25 (W, depth 0)
def lb_X2_offer_25_30  (v1 : Int32) (v2 : Int32) (v3 : Int32) (M : Mem) : Option Mem :=
  if inb v1 100 then if inb v1 100 then some (up2 (up2 M 26 (ix v1) v2) 27 (ix v1) v3) else none else none
set_option maxRecDepth 20000 in
set_option maxHeartbeats 2000000 in
theorem ev_lb_X2_offer_25_30   (v1 : Int32) (v2 : Int32) (v3 : Int32) (M : Mem) : Ev none wV RX2 cX2_offer none 0 30 [some (.ref 25), some (.int v1), some (.int v2), some (.int v3)] [] M (lb_X2_offer_25_30 v1 v2 v3 M) := by
  unfold lb_X2_offer_25_30
  refine e_aload_n (dt dk_X2_offer 18 rfl) rfl ?_
  refine e_getR ci_X2 (dt dk_X2_offer 19 rfl) rfl (by decide) rfl fl_X2_11 ?_
  refine e_iload_n (dt dk_X2_offer 20 rfl) rfl ?_
  refine e_iload_n (dt dk_X2_offer 21 rfl) rfl ?_
  refine e_if (fun h3 => ?_)
  refine e_iast' (dt dk_X2_offer 22 rfl) rfl h3 ?_
  refine e_aload_n (dt dk_X2_offer 23 rfl) rfl ?_
  refine e_getR ci_X2 (dt dk_X2_offer 24 rfl) rfl (by decide) rfl fl_X2_15 ?_
  refine e_iload_n (dt dk_X2_offer 25 rfl) rfl ?_
  refine e_iload_n (dt dk_X2_offer 26 rfl) rfl ?_
  refine e_if (fun h4 => ?_)
  refine e_iast' (dt dk_X2_offer 27 rfl) rfl h4 ?_
  exact e_vret (dt dk_X2_offer 28 rfl) rfl rfl
def f_X2_offer_25 (v1 : Int32) (v2 : Int32) (v3 : Int32) (M : Mem) : Option Mem :=
  if inb v1 100 then (if (M 26 (ix v1)) < v2 then (lb_X2_offer_25_30 v1 v2 v3 M) else if inb v1 100 then (if v2 = (M 26 (ix v1)) then if inb v1 100 then (if (M 27 (ix v1)) ≤ v3 then some M else (lb_X2_offer_25_30 v1 v2 v3 M)) else none else some M) else none) else none
set_option maxRecDepth 20000 in
set_option maxHeartbeats 2000000 in
theorem sp_X2_offer_25 (v1 : Int32) (v2 : Int32) (v3 : Int32) (M : Mem) : SpO wV yX2_offer cX2_offer 4 none 0 [.ref 25, .int v1, .int v2, .int v3] M (f_X2_offer_25 v1 v2 v3 M) := by
  refine sp_of (L := [some (.ref 25), some (.int v1), some (.int v2), some (.int v3)]) rfl (by decide +kernel) rfl rfl ?_
  unfold f_X2_offer_25
  refine e_iload_n (dt dk_X2_offer 0 rfl) rfl ?_
  refine e_aload_n (dt dk_X2_offer 1 rfl) rfl ?_
  refine e_getR ci_X2 (dt dk_X2_offer 2 rfl) rfl (by decide) rfl fl_X2_11 ?_
  refine e_iload_n (dt dk_X2_offer 3 rfl) rfl ?_
  refine e_if (fun h1 => ?_)
  refine e_iald' (v := (M 26 (ix v1))) (dt dk_X2_offer 4 rfl) rfl h1 rfl ?_
  refine e_icmp_gt 30 (dt dk_X2_offer 5 rfl) (by decide) (fun h2 => ?_) (fun h2 => ?_)
  · exact e_forget [true, true, true, true] [some (.ref 25), some (.int v1), some (.int v2), some (.int v3)] ⟨rfl, rfl⟩ (ev_lb_X2_offer_25_30 v1 v2 v3 M)
  · refine e_iload_n (dt dk_X2_offer 6 rfl) rfl ?_
    refine e_aload_n (dt dk_X2_offer 7 rfl) rfl ?_
    refine e_getR ci_X2 (dt dk_X2_offer 8 rfl) rfl (by decide) rfl fl_X2_11 ?_
    refine e_iload_n (dt dk_X2_offer 9 rfl) rfl ?_
    refine e_if (fun h5 => ?_)
    refine e_iald' (v := (M 26 (ix v1))) (dt dk_X2_offer 10 rfl) rfl h5 rfl ?_
    refine e_icmp_ne 44 (dt dk_X2_offer 11 rfl) (by decide) (fun h6 => ?_) (fun h6 => ?_)
    · refine e_iload_n (dt dk_X2_offer 12 rfl) rfl ?_
      refine e_aload_n (dt dk_X2_offer 13 rfl) rfl ?_
      refine e_getR ci_X2 (dt dk_X2_offer 14 rfl) rfl (by decide) rfl fl_X2_15 ?_
      refine e_iload_n (dt dk_X2_offer 15 rfl) rfl ?_
      refine e_if (fun h7 => ?_)
      refine e_iald' (v := (M 27 (ix v1))) (dt dk_X2_offer 16 rfl) rfl h7 rfl ?_
      refine e_icmp_ge 44 (dt dk_X2_offer 17 rfl) (by decide) (fun h8 => ?_) (fun h8 => ?_)
      · exact e_vret (dt dk_X2_offer 28 rfl) rfl rfl
      · exact e_forget [true, true, true, true] [some (.ref 25), some (.int v1), some (.int v2), some (.int v3)] ⟨rfl, rfl⟩ (ev_lb_X2_offer_25_30 v1 v2 v3 M)
    · exact e_vret (dt dk_X2_offer 28 rfl) rfl rfl
-- X2_compare_25 (W, depth 1)
def f_X2_compare_25 (v1 : Int32) (v2 : Int32) (v3 : Int32) (M : Mem) : Option Mem :=
  (if (f_X9_within v1 (11 : Int32) (99 : Int32)) = 0 then some M else if inb (v1 - (1 : Int32)) 100 then if inb v1 100 then if inb (v1 - (1 : Int32)) 100 then if inb v1 100 then if inb (v1 - (10 : Int32)) 100 then if inb (v1 - (10 : Int32)) 100 then ((f_X2_offer_25 v1 ((up2 M 26 (ix v1) (M 26 (ix (v1 - (1 : Int32))))) 26 (ix (v1 - (10 : Int32)))) ((up2 (up2 M 26 (ix v1) (M 26 (ix (v1 - (1 : Int32))))) 27 (ix v1) (M 27 (ix (v1 - (1 : Int32))))) 27 (ix (v1 - (10 : Int32)))) (up2 (up2 M 26 (ix v1) (M 26 (ix (v1 - (1 : Int32))))) 27 (ix v1) (M 27 (ix (v1 - (1 : Int32))))))).bind fun q8 => if inb ((v1 - (10 : Int32)) - (1 : Int32)) 100 then (if v2 = v3 then (if (f_X9_within (q8 26 (ix ((v1 - (10 : Int32)) - (1 : Int32)))) (0 : Int32) (8 : Int32)) = 0 then some q8 else if inb (q8 26 (ix ((v1 - (10 : Int32)) - (1 : Int32)))) 10 then if inb ((v1 - (10 : Int32)) - (1 : Int32)) 100 then ((f_X2_offer_25 v1 ((q8 26 (ix ((v1 - (10 : Int32)) - (1 : Int32)))) + (1 : Int32)) ((v2 * (tensF (ix (q8 26 (ix ((v1 - (10 : Int32)) - (1 : Int32))))))) + (q8 27 (ix ((v1 - (10 : Int32)) - (1 : Int32))))) q8)).bind fun q14 => some q14 else none else none) else some q8) else none else none else none else none else none else none else none)
set_option maxRecDepth 20000 in
set_option maxHeartbeats 2000000 in
theorem sp_X2_compare_25 (v1 : Int32) (v2 : Int32) (v3 : Int32) (M : Mem) : SpO wV yX2_compare cX2_compare 5 none 1 [.ref 25, .int v1, .int v2, .int v3] M (f_X2_compare_25 v1 v2 v3 M) := by
  refine sp_of (L := [some (.ref 25), some (.int v1), some (.int v2), some (.int v3), none]) rfl (by decide +kernel) rfl rfl ?_
  unfold f_X2_compare_25
  refine e_iload_n (dt dk_X2_compare 0 rfl) rfl ?_
  refine e_bipush (v := (11 : Int32)) (dt dk_X2_compare 1 rfl) (by decide) ?_
  refine e_bipush (v := (99 : Int32)) (dt dk_X2_compare 2 rfl) (by decide) ?_
  refine ev_callT (ca_SN ms_X9_within (sp_X9_within v1 (11 : Int32) (99 : Int32) M) (dt dk_X2_compare 3 rfl) mn_X2_29 rfl rfl rfl (by decide) : Ca _ _ _ _ _ _ _ _ [] _ _) ?_
  show Ev _ _ _ _ _ _ 8 [some (.ref 25), some (.int v1), some (.int v2), some (.int v3), none] [.int (f_X9_within v1 (11 : Int32) (99 : Int32))] M _
  refine e_if_ne 12 (dt dk_X2_compare 4 rfl) (by decide) (fun h1 => ?_) (fun h1 => ?_)
  · exact e_vret (dt dk_X2_compare 5 rfl) rfl rfl
  · refine e_aload_n (dt dk_X2_compare 6 rfl) rfl ?_
    refine e_getR ci_X2 (dt dk_X2_compare 7 rfl) rfl (by decide) rfl fl_X2_11 ?_
    refine e_iload_n (dt dk_X2_compare 8 rfl) rfl ?_
    refine e_aload_n (dt dk_X2_compare 9 rfl) rfl ?_
    refine e_getR ci_X2 (dt dk_X2_compare 10 rfl) rfl (by decide) rfl fl_X2_11 ?_
    refine e_iload_n (dt dk_X2_compare 11 rfl) rfl ?_
    refine e_iconst (v := (1 : Int32)) (dt dk_X2_compare 12 rfl) (by decide) ?_
    refine e_isub (dt dk_X2_compare 13 rfl) ?_
    refine e_if (fun h2 => ?_)
    refine e_iald' (v := (M 26 (ix (v1 - (1 : Int32))))) (dt dk_X2_compare 14 rfl) rfl h2 rfl ?_
    refine e_if (fun h3 => ?_)
    refine e_iast' (dt dk_X2_compare 15 rfl) rfl h3 ?_
    refine e_aload_n (dt dk_X2_compare 16 rfl) rfl ?_
    refine e_getR ci_X2 (dt dk_X2_compare 17 rfl) rfl (by decide) rfl fl_X2_15 ?_
    refine e_iload_n (dt dk_X2_compare 18 rfl) rfl ?_
    refine e_aload_n (dt dk_X2_compare 19 rfl) rfl ?_
    refine e_getR ci_X2 (dt dk_X2_compare 20 rfl) rfl (by decide) rfl fl_X2_15 ?_
    refine e_iload_n (dt dk_X2_compare 21 rfl) rfl ?_
    refine e_iconst (v := (1 : Int32)) (dt dk_X2_compare 22 rfl) (by decide) ?_
    refine e_isub (dt dk_X2_compare 23 rfl) ?_
    refine e_if (fun h4 => ?_)
    refine e_iald' (v := (M 27 (ix (v1 - (1 : Int32))))) (dt dk_X2_compare 24 rfl) rfl h4 rfl ?_
    refine e_if (fun h5 => ?_)
    refine e_iast' (dt dk_X2_compare 25 rfl) rfl h5 ?_
    refine e_aload_n (dt dk_X2_compare 26 rfl) rfl ?_
    refine e_iload_n (dt dk_X2_compare 27 rfl) rfl ?_
    refine e_aload_n (dt dk_X2_compare 28 rfl) rfl ?_
    refine e_getR ci_X2 (dt dk_X2_compare 29 rfl) rfl (by decide) rfl fl_X2_11 ?_
    refine e_iload_n (dt dk_X2_compare 30 rfl) rfl ?_
    refine e_bipush (v := (10 : Int32)) (dt dk_X2_compare 31 rfl) (by decide) ?_
    refine e_isub (dt dk_X2_compare 32 rfl) ?_
    refine e_if (fun h6 => ?_)
    refine e_iald' (v := ((up2 M 26 (ix v1) (M 26 (ix (v1 - (1 : Int32))))) 26 (ix (v1 - (10 : Int32))))) (dt dk_X2_compare 33 rfl) rfl h6 rfl ?_
    refine e_aload_n (dt dk_X2_compare 34 rfl) rfl ?_
    refine e_getR ci_X2 (dt dk_X2_compare 35 rfl) rfl (by decide) rfl fl_X2_15 ?_
    refine e_iload_n (dt dk_X2_compare 36 rfl) rfl ?_
    refine e_bipush (v := (10 : Int32)) (dt dk_X2_compare 37 rfl) (by decide) ?_
    refine e_isub (dt dk_X2_compare 38 rfl) ?_
    refine e_if (fun h7 => ?_)
    refine e_iald' (v := ((up2 (up2 M 26 (ix v1) (M 26 (ix (v1 - (1 : Int32))))) 27 (ix v1) (M 27 (ix (v1 - (1 : Int32))))) 27 (ix (v1 - (10 : Int32))))) (dt dk_X2_compare 39 rfl) rfl h7 rfl ?_
    refine ev_call (ca_V (k := 25) mv_X2_offer (sp_X2_offer_25 v1 ((up2 M 26 (ix v1) (M 26 (ix (v1 - (1 : Int32))))) 26 (ix (v1 - (10 : Int32)))) ((up2 (up2 M 26 (ix v1) (M 26 (ix (v1 - (1 : Int32))))) 27 (ix v1) (M 27 (ix (v1 - (1 : Int32))))) 27 (ix (v1 - (10 : Int32)))) (up2 (up2 M 26 (ix v1) (M 26 (ix (v1 - (1 : Int32))))) 27 (ix v1) (M 27 (ix (v1 - (1 : Int32)))))) (dt dk_X2_compare 40 rfl) ml_X2_33 rfl rfl rfl rfl rfl (by decide) : Ca _ _ _ _ _ _ _ _ [] _ _) (fun q8 hq8 => ?_)
    show Ev _ _ _ _ _ _ 63 [some (.ref 25), some (.int v1), some (.int v2), some (.int v3), none] [] q8 _
    refine e_aload_n (dt dk_X2_compare 41 rfl) rfl ?_
    refine e_getR ci_X2 (dt dk_X2_compare 42 rfl) rfl (by decide) rfl fl_X2_11 ?_
    refine e_iload_n (dt dk_X2_compare 43 rfl) rfl ?_
    refine e_bipush (v := (10 : Int32)) (dt dk_X2_compare 44 rfl) (by decide) ?_
    refine e_isub (dt dk_X2_compare 45 rfl) ?_
    refine e_iconst (v := (1 : Int32)) (dt dk_X2_compare 46 rfl) (by decide) ?_
    refine e_isub (dt dk_X2_compare 47 rfl) ?_
    refine e_if (fun h9 => ?_)
    refine e_iald' (v := (q8 26 (ix ((v1 - (10 : Int32)) - (1 : Int32))))) (dt dk_X2_compare 48 rfl) rfl h9 rfl ?_
    refine e_istore [some (.ref 25), some (.int v1), some (.int v2), some (.int v3), some (.int (q8 26 (ix ((v1 - (10 : Int32)) - (1 : Int32)))))] (dt dk_X2_compare 49 rfl) rfl rfl rfl ?_
    refine e_iload_n (dt dk_X2_compare 50 rfl) rfl ?_
    refine e_iload_n (dt dk_X2_compare 51 rfl) rfl ?_
    refine e_icmp_ne 121 (dt dk_X2_compare 52 rfl) (by decide) (fun h10 => ?_) (fun h10 => ?_)
    · refine e_iload (dt dk_X2_compare 53 rfl) rfl ?_
      refine e_iconst (v := (0 : Int32)) (dt dk_X2_compare 54 rfl) (by decide) ?_
      refine e_bipush (v := (8 : Int32)) (dt dk_X2_compare 55 rfl) (by decide) ?_
      refine ev_callT (ca_SN ms_X9_within (sp_X9_within (q8 26 (ix ((v1 - (10 : Int32)) - (1 : Int32)))) (0 : Int32) (8 : Int32) q8) (dt dk_X2_compare 56 rfl) mn_X2_29 rfl rfl rfl (by decide) : Ca _ _ _ _ _ _ _ _ [] _ _) ?_
      show Ev _ _ _ _ _ _ 89 [some (.ref 25), some (.int v1), some (.int v2), some (.int v3), some (.int (q8 26 (ix ((v1 - (10 : Int32)) - (1 : Int32)))))] [.int (f_X9_within (q8 26 (ix ((v1 - (10 : Int32)) - (1 : Int32)))) (0 : Int32) (8 : Int32))] q8 _
      refine e_if_eq 121 (dt dk_X2_compare 57 rfl) (by decide) (fun h11 => ?_) (fun h11 => ?_)
      · exact e_vret (dt dk_X2_compare 78 rfl) rfl rfl
      · refine e_aload_n (dt dk_X2_compare 58 rfl) rfl ?_
        refine e_iload_n (dt dk_X2_compare 59 rfl) rfl ?_
        refine e_iload (dt dk_X2_compare 60 rfl) rfl ?_
        refine e_iconst (v := (1 : Int32)) (dt dk_X2_compare 61 rfl) (by decide) ?_
        refine e_iadd (dt dk_X2_compare 62 rfl) ?_
        refine e_iload_n (dt dk_X2_compare 63 rfl) rfl ?_
        refine e_getsTN (dt dk_X2_compare 64 rfl) fn_X2_36 ?_
        refine e_iload (dt dk_X2_compare 65 rfl) rfl ?_
        refine e_if (fun h12 => ?_)
        refine e_iaT' (dt dk_X2_compare 66 rfl) h12 ?_
        refine e_imul (dt dk_X2_compare 67 rfl) ?_
        refine e_aload_n (dt dk_X2_compare 68 rfl) rfl ?_
        refine e_getR ci_X2 (dt dk_X2_compare 69 rfl) rfl (by decide) rfl fl_X2_15 ?_
        refine e_iload_n (dt dk_X2_compare 70 rfl) rfl ?_
        refine e_bipush (v := (10 : Int32)) (dt dk_X2_compare 71 rfl) (by decide) ?_
        refine e_isub (dt dk_X2_compare 72 rfl) ?_
        refine e_iconst (v := (1 : Int32)) (dt dk_X2_compare 73 rfl) (by decide) ?_
        refine e_isub (dt dk_X2_compare 74 rfl) ?_
        refine e_if (fun h13 => ?_)
        refine e_iald' (v := (q8 27 (ix ((v1 - (10 : Int32)) - (1 : Int32))))) (dt dk_X2_compare 75 rfl) rfl h13 rfl ?_
        refine e_iadd (dt dk_X2_compare 76 rfl) ?_
        refine ev_call (ca_V (k := 25) mv_X2_offer (sp_X2_offer_25 v1 ((q8 26 (ix ((v1 - (10 : Int32)) - (1 : Int32)))) + (1 : Int32)) ((v2 * (tensF (ix (q8 26 (ix ((v1 - (10 : Int32)) - (1 : Int32))))))) + (q8 27 (ix ((v1 - (10 : Int32)) - (1 : Int32))))) q8) (dt dk_X2_compare 77 rfl) ml_X2_33 rfl rfl rfl rfl rfl (by decide) : Ca _ _ _ _ _ _ _ _ [] _ _) (fun q14 hq14 => ?_)
        show Ev _ _ _ _ _ _ 121 [some (.ref 25), some (.int v1), some (.int v2), some (.int v3), some (.int (q8 26 (ix ((v1 - (10 : Int32)) - (1 : Int32)))))] [] q14 _
        exact e_vret (dt dk_X2_compare 78 rfl) rfl rfl
    · exact e_vret (dt dk_X2_compare 78 rfl) rfl rfl
-- X2_listen_25 (W, depth 2)
def lb_X2_listen_25_86  (v3 : Int32) (M : Mem) : Option Mem :=
  (if (f_X9_within v3 (1 : Int32) (9 : Int32)) = 0 then some (up2 (up2 M 25 2 (0 : Int32)) 25 3 (0 : Int32)) else if inb (((10 : Int32) * v3) + v3) 100 then if inb (((10 : Int32) * v3) + v3) 100 then some (up2 (up2 (up2 (up2 M 25 2 (0 : Int32)) 25 3 (0 : Int32)) 25 2 (M 26 (ix (((10 : Int32) * v3) + v3)))) 25 3 (M 27 (ix (((10 : Int32) * v3) + v3)))) else none else none)
set_option maxRecDepth 20000 in
set_option maxHeartbeats 2000000 in
theorem ev_lb_X2_listen_25_86   (v3 : Int32) (M : Mem) : Ev none wV RX2 cX2_listen none 2 86 [some (.ref 25), none, none, some (.int v3), none, none, none, none] [] M (lb_X2_listen_25_86 v3 M) := by
  unfold lb_X2_listen_25_86
  refine e_aload_n (dt dk_X2_listen 45 rfl) rfl ?_
  refine e_iconst (v := (0 : Int32)) (dt dk_X2_listen 46 rfl) (by decide) ?_
  refine e_putI (ty := .int) ci_X2 (dt dk_X2_listen 47 rfl) rfl (by decide) rfl fl_X2_22 rfl (by decide +kernel) rfl rfl ?_
  refine e_aload_n (dt dk_X2_listen 48 rfl) rfl ?_
  refine e_iconst (v := (0 : Int32)) (dt dk_X2_listen 49 rfl) (by decide) ?_
  refine e_putI (ty := .int) ci_X2 (dt dk_X2_listen 50 rfl) rfl (by decide) rfl fl_X2_26 rfl (by decide +kernel) rfl rfl ?_
  refine e_iload_n (dt dk_X2_listen 51 rfl) rfl ?_
  refine e_iconst (v := (1 : Int32)) (dt dk_X2_listen 52 rfl) (by decide) ?_
  refine e_bipush (v := (9 : Int32)) (dt dk_X2_listen 53 rfl) (by decide) ?_
  refine ev_callT (ca_SN ms_X9_within (sp_X9_within v3 (1 : Int32) (9 : Int32) (up2 (up2 M 25 2 (0 : Int32)) 25 3 (0 : Int32))) (dt dk_X2_listen 54 rfl) mn_X2_29 rfl rfl rfl (by decide) : Ca _ _ _ _ _ _ _ _ [] _ _) ?_
  show Ev _ _ _ _ _ _ 103 [some (.ref 25), none, none, some (.int v3), none, none, none, none] [.int (f_X9_within v3 (1 : Int32) (9 : Int32))] (up2 (up2 M 25 2 (0 : Int32)) 25 3 (0 : Int32)) _
  refine e_if_eq 136 (dt dk_X2_listen 55 rfl) (by decide) (fun h2 => ?_) (fun h2 => ?_)
  · exact e_vret (dt dk_X2_listen 76 rfl) rfl rfl
  · refine e_aload_n (dt dk_X2_listen 56 rfl) rfl ?_
    refine e_aload_n (dt dk_X2_listen 57 rfl) rfl ?_
    refine e_getR ci_X2 (dt dk_X2_listen 58 rfl) rfl (by decide) rfl fl_X2_11 ?_
    refine e_bipush (v := (10 : Int32)) (dt dk_X2_listen 59 rfl) (by decide) ?_
    refine e_iload_n (dt dk_X2_listen 60 rfl) rfl ?_
    refine e_imul (dt dk_X2_listen 61 rfl) ?_
    refine e_iload_n (dt dk_X2_listen 62 rfl) rfl ?_
    refine e_iadd (dt dk_X2_listen 63 rfl) ?_
    refine e_if (fun h3 => ?_)
    refine e_iald' (v := (M 26 (ix (((10 : Int32) * v3) + v3)))) (dt dk_X2_listen 64 rfl) rfl h3 rfl ?_
    refine e_putI (ty := .int) ci_X2 (dt dk_X2_listen 65 rfl) rfl (by decide) rfl fl_X2_22 rfl (by decide +kernel) rfl rfl ?_
    refine e_aload_n (dt dk_X2_listen 66 rfl) rfl ?_
    refine e_aload_n (dt dk_X2_listen 67 rfl) rfl ?_
    refine e_getR ci_X2 (dt dk_X2_listen 68 rfl) rfl (by decide) rfl fl_X2_15 ?_
    refine e_bipush (v := (10 : Int32)) (dt dk_X2_listen 69 rfl) (by decide) ?_
    refine e_iload_n (dt dk_X2_listen 70 rfl) rfl ?_
    refine e_imul (dt dk_X2_listen 71 rfl) ?_
    refine e_iload_n (dt dk_X2_listen 72 rfl) rfl ?_
    refine e_iadd (dt dk_X2_listen 73 rfl) ?_
    refine e_if (fun h4 => ?_)
    refine e_iald' (v := (M 27 (ix (((10 : Int32) * v3) + v3)))) (dt dk_X2_listen 74 rfl) rfl h4 rfl ?_
    refine e_putI (ty := .int) ci_X2 (dt dk_X2_listen 75 rfl) rfl (by decide) rfl fl_X2_26 rfl (by decide +kernel) rfl rfl ?_
    exact e_vret (dt dk_X2_listen 76 rfl) rfl rfl
def lb_X2_listen_25_73 (K6 : Int32 → Int32 → Int32 → Int32 → Mem → Option Mem) (v2 : Int32) (v3 : Int32) (v4 : Int32) (v5 : Int32) (M : Mem) : Option Mem :=
  (K6 v2 v3 (v4 / (10 : Int32)) (v5 + (1 : Int32)) M)
set_option maxRecDepth 20000 in
set_option maxHeartbeats 2000000 in
theorem ev_lb_X2_listen_25_73 (K6 : Int32 → Int32 → Int32 → Int32 → Mem → Option Mem) (hK6 : ∀ (v2 : Int32) (v3 : Int32) (v4 : Int32) (v5 : Int32) (M : Mem), Ev none wV RX2 cX2_listen none 2 6 [some (.ref 25), none, some (.int v2), some (.int v3), some (.int v4), some (.int v5), none, none] [] M (K6 v2 v3 v4 v5 M)) (v2 : Int32) (v3 : Int32) (v4 : Int32) (v5 : Int32) (M : Mem) : Ev none wV RX2 cX2_listen none 2 73 [some (.ref 25), none, some (.int v2), some (.int v3), some (.int v4), some (.int v5), none, none] [] M (lb_X2_listen_25_73 K6 v2 v3 v4 v5 M) := by
  unfold lb_X2_listen_25_73
  refine e_iload (dt dk_X2_listen 39 rfl) rfl ?_
  refine e_bipush (v := (10 : Int32)) (dt dk_X2_listen 40 rfl) (by decide) ?_
  refine e_idiv' (dt dk_X2_listen 41 rfl) (by decide) ?_
  show Ev _ _ _ _ _ _ 78 [some (.ref 25), none, some (.int v2), some (.int v3), some (.int v4), some (.int v5), none, none] [.int (v4 / (10 : Int32))] M _
  refine e_istore [some (.ref 25), none, some (.int v2), some (.int v3), some (.int (v4 / (10 : Int32))), some (.int v5), none, none] (dt dk_X2_listen 42 rfl) rfl rfl rfl ?_
  refine e_iinc [some (.ref 25), none, some (.int v2), some (.int v3), some (.int (v4 / (10 : Int32))), some (.int (v5 + (1 : Int32))), none, none] (dt dk_X2_listen 43 rfl) rfl rfl rfl rfl ?_
  refine e_goto 6 (dt dk_X2_listen 44 rfl) (by decide) ?_
  exact e_forget [true, false, true, true, true, true, false, false] [some (.ref 25), none, some (.int v2), some (.int v3), some (.int (v4 / (10 : Int32))), some (.int (v5 + (1 : Int32))), none, none] ⟨rfl, rfl⟩ (hK6 v2 v3 (v4 / (10 : Int32)) (v5 + (1 : Int32)) M)
def bd_X2_listen_25_25 (K6 : Int32 → Int32 → Int32 → Int32 → Mem → Option Mem) (K25 : Int32 → Int32 → Int32 → Int32 → Int32 → Int32 → Mem → Option Mem) (v2 : Int32) (v3 : Int32) (v4 : Int32) (v5 : Int32) (v6 : Int32) (v7 : Int32) (M : Mem) : Option Mem :=
  (if v3 < v7 then (lb_X2_listen_25_73 K6 v2 v3 v4 v5 M) else (if (10 : Int32) ≤ v7 then (lb_X2_listen_25_73 K6 v2 v3 v4 v5 M) else ((f_X2_compare_25 (((10 : Int32) * v5) + v7) (remI v4 (10 : Int32)) (remI v6 (10 : Int32)) M)).bind fun q8 => (K25 v2 v3 v4 v5 (v6 / (10 : Int32)) (v7 + (1 : Int32)) q8)))
set_option maxRecDepth 20000 in
set_option maxHeartbeats 2000000 in
theorem ev_bd_X2_listen_25_25 (K6 : Int32 → Int32 → Int32 → Int32 → Mem → Option Mem) (K25 : Int32 → Int32 → Int32 → Int32 → Int32 → Int32 → Mem → Option Mem) (hK6 : ∀ (v2 : Int32) (v3 : Int32) (v4 : Int32) (v5 : Int32) (M : Mem), Ev none wV RX2 cX2_listen none 2 6 [some (.ref 25), none, some (.int v2), some (.int v3), some (.int v4), some (.int v5), none, none] [] M (K6 v2 v3 v4 v5 M)) (hK25 : ∀ (v2 : Int32) (v3 : Int32) (v4 : Int32) (v5 : Int32) (v6 : Int32) (v7 : Int32) (M : Mem), Ev none wV RX2 cX2_listen none 2 25 [some (.ref 25), none, some (.int v2), some (.int v3), some (.int v4), some (.int v5), some (.int v6), some (.int v7)] [] M (K25 v2 v3 v4 v5 v6 v7 M)) (v2 : Int32) (v3 : Int32) (v4 : Int32) (v5 : Int32) (v6 : Int32) (v7 : Int32) (M : Mem) : Ev none wV RX2 cX2_listen none 2 25 [some (.ref 25), none, some (.int v2), some (.int v3), some (.int v4), some (.int v5), some (.int v6), some (.int v7)] [] M (bd_X2_listen_25_25 K6 K25 v2 v3 v4 v5 v6 v7 M) := by
  unfold bd_X2_listen_25_25
  refine e_iload (dt dk_X2_listen 14 rfl) rfl ?_
  refine e_iload_n (dt dk_X2_listen 15 rfl) rfl ?_
  refine e_icmp_gt 73 (dt dk_X2_listen 16 rfl) (by decide) (fun h6 => ?_) (fun h6 => ?_)
  · exact e_forget [true, false, true, true, true, true, false, false] [some (.ref 25), none, some (.int v2), some (.int v3), some (.int v4), some (.int v5), none, none] ⟨rfl, rfl⟩ (ev_lb_X2_listen_25_73 K6 hK6 v2 v3 v4 v5 M)
  · refine e_iload (dt dk_X2_listen 17 rfl) rfl ?_
    refine e_bipush (v := (10 : Int32)) (dt dk_X2_listen 18 rfl) (by decide) ?_
    refine e_icmp_ge 73 (dt dk_X2_listen 19 rfl) (by decide) (fun h7 => ?_) (fun h7 => ?_)
    · exact e_forget [true, false, true, true, true, true, false, false] [some (.ref 25), none, some (.int v2), some (.int v3), some (.int v4), some (.int v5), none, none] ⟨rfl, rfl⟩ (ev_lb_X2_listen_25_73 K6 hK6 v2 v3 v4 v5 M)
    · refine e_aload_n (dt dk_X2_listen 20 rfl) rfl ?_
      refine e_bipush (v := (10 : Int32)) (dt dk_X2_listen 21 rfl) (by decide) ?_
      refine e_iload (dt dk_X2_listen 22 rfl) rfl ?_
      refine e_imul (dt dk_X2_listen 23 rfl) ?_
      refine e_iload (dt dk_X2_listen 24 rfl) rfl ?_
      refine e_iadd (dt dk_X2_listen 25 rfl) ?_
      refine e_iload (dt dk_X2_listen 26 rfl) rfl ?_
      refine e_bipush (v := (10 : Int32)) (dt dk_X2_listen 27 rfl) (by decide) ?_
      refine e_irem' (dt dk_X2_listen 28 rfl) (by decide) ?_
      show Ev _ _ _ _ _ _ 52 [some (.ref 25), none, some (.int v2), some (.int v3), some (.int v4), some (.int v5), some (.int v6), some (.int v7)] [.int (remI v4 (10 : Int32)), .int (((10 : Int32) * v5) + v7), .ref 25] M _
      refine e_iload (dt dk_X2_listen 29 rfl) rfl ?_
      refine e_bipush (v := (10 : Int32)) (dt dk_X2_listen 30 rfl) (by decide) ?_
      refine e_irem' (dt dk_X2_listen 31 rfl) (by decide) ?_
      show Ev _ _ _ _ _ _ 57 [some (.ref 25), none, some (.int v2), some (.int v3), some (.int v4), some (.int v5), some (.int v6), some (.int v7)] [.int (remI v6 (10 : Int32)), .int (remI v4 (10 : Int32)), .int (((10 : Int32) * v5) + v7), .ref 25] M _
      refine ev_call (ca_V (k := 25) mv_X2_compare (sp_X2_compare_25 (((10 : Int32) * v5) + v7) (remI v4 (10 : Int32)) (remI v6 (10 : Int32)) M) (dt dk_X2_listen 32 rfl) ml_X2_18 rfl rfl rfl rfl rfl (by decide) : Ca _ _ _ _ _ _ _ _ [] _ _) (fun q8 hq8 => ?_)
      show Ev _ _ _ _ _ _ 60 [some (.ref 25), none, some (.int v2), some (.int v3), some (.int v4), some (.int v5), some (.int v6), some (.int v7)] [] q8 _
      refine e_iload (dt dk_X2_listen 33 rfl) rfl ?_
      refine e_bipush (v := (10 : Int32)) (dt dk_X2_listen 34 rfl) (by decide) ?_
      refine e_idiv' (dt dk_X2_listen 35 rfl) (by decide) ?_
      show Ev _ _ _ _ _ _ 65 [some (.ref 25), none, some (.int v2), some (.int v3), some (.int v4), some (.int v5), some (.int v6), some (.int v7)] [.int (v6 / (10 : Int32))] q8 _
      refine e_istore [some (.ref 25), none, some (.int v2), some (.int v3), some (.int v4), some (.int v5), some (.int (v6 / (10 : Int32))), some (.int v7)] (dt dk_X2_listen 36 rfl) rfl rfl rfl ?_
      refine e_iinc [some (.ref 25), none, some (.int v2), some (.int v3), some (.int v4), some (.int v5), some (.int (v6 / (10 : Int32))), some (.int (v7 + (1 : Int32)))] (dt dk_X2_listen 37 rfl) rfl rfl rfl rfl ?_
      refine e_goto 25 (dt dk_X2_listen 38 rfl) (by decide) ?_
      exact e_forget [true, false, true, true, true, true, true, true] [some (.ref 25), none, some (.int v2), some (.int v3), some (.int v4), some (.int v5), some (.int (v6 / (10 : Int32))), some (.int (v7 + (1 : Int32)))] ⟨rfl, rfl⟩ (hK25 v2 v3 v4 v5 (v6 / (10 : Int32)) (v7 + (1 : Int32)) q8)
def lp_X2_listen_25_25 (K6 : Int32 → Int32 → Int32 → Int32 → Mem → Option Mem) : Nat → Int32 → Int32 → Int32 → Int32 → Int32 → Int32 → Mem → Option Mem
  | 0 => fun _ _ _ _ _ _ _ => none
  | n + 1 => bd_X2_listen_25_25 K6 (lp_X2_listen_25_25 K6 n)
theorem ev_lp_X2_listen_25_25 (K6 : Int32 → Int32 → Int32 → Int32 → Mem → Option Mem) (hK6 : ∀ (v2 : Int32) (v3 : Int32) (v4 : Int32) (v5 : Int32) (M : Mem), Ev none wV RX2 cX2_listen none 2 6 [some (.ref 25), none, some (.int v2), some (.int v3), some (.int v4), some (.int v5), none, none] [] M (K6 v2 v3 v4 v5 M)) : ∀ (n : Nat), ∀ (v2 : Int32) (v3 : Int32) (v4 : Int32) (v5 : Int32) (v6 : Int32) (v7 : Int32) (M : Mem), Ev none wV RX2 cX2_listen none 2 25 [some (.ref 25), none, some (.int v2), some (.int v3), some (.int v4), some (.int v5), some (.int v6), some (.int v7)] [] M (lp_X2_listen_25_25 K6 n v2 v3 v4 v5 v6 v7 M)
  | 0 => fun _ _ _ _ _ _ _ => e_none
  | n + 1 => ev_bd_X2_listen_25_25 K6 (lp_X2_listen_25_25 K6 n) hK6 (ev_lp_X2_listen_25_25 K6 hK6 n)
def bd_X2_listen_25_6  (K6 : Int32 → Int32 → Int32 → Int32 → Mem → Option Mem) (v2 : Int32) (v3 : Int32) (v4 : Int32) (v5 : Int32) (M : Mem) : Option Mem :=
  (if v3 < v5 then (lb_X2_listen_25_86 v3 M) else (if (10 : Int32) ≤ v5 then (lb_X2_listen_25_86 v3 M) else (lp_X2_listen_25_25 K6 FU v2 v3 v4 v5 v2 (1 : Int32) M)))
set_option maxRecDepth 20000 in
set_option maxHeartbeats 2000000 in
theorem ev_bd_X2_listen_25_6  (K6 : Int32 → Int32 → Int32 → Int32 → Mem → Option Mem)  (hK6 : ∀ (v2 : Int32) (v3 : Int32) (v4 : Int32) (v5 : Int32) (M : Mem), Ev none wV RX2 cX2_listen none 2 6 [some (.ref 25), none, some (.int v2), some (.int v3), some (.int v4), some (.int v5), none, none] [] M (K6 v2 v3 v4 v5 M)) (v2 : Int32) (v3 : Int32) (v4 : Int32) (v5 : Int32) (M : Mem) : Ev none wV RX2 cX2_listen none 2 6 [some (.ref 25), none, some (.int v2), some (.int v3), some (.int v4), some (.int v5), none, none] [] M (bd_X2_listen_25_6 K6 v2 v3 v4 v5 M) := by
  unfold bd_X2_listen_25_6
  refine e_iload (dt dk_X2_listen 4 rfl) rfl ?_
  refine e_iload_n (dt dk_X2_listen 5 rfl) rfl ?_
  refine e_icmp_gt 86 (dt dk_X2_listen 6 rfl) (by decide) (fun h1 => ?_) (fun h1 => ?_)
  · exact e_forget [true, false, false, true, false, false, false, false] [some (.ref 25), none, none, some (.int v3), none, none, none, none] ⟨rfl, rfl⟩ (ev_lb_X2_listen_25_86 v3 M)
  · refine e_iload (dt dk_X2_listen 7 rfl) rfl ?_
    refine e_bipush (v := (10 : Int32)) (dt dk_X2_listen 8 rfl) (by decide) ?_
    refine e_icmp_ge 86 (dt dk_X2_listen 9 rfl) (by decide) (fun h5 => ?_) (fun h5 => ?_)
    · exact e_forget [true, false, false, true, false, false, false, false] [some (.ref 25), none, none, some (.int v3), none, none, none, none] ⟨rfl, rfl⟩ (ev_lb_X2_listen_25_86 v3 M)
    · refine e_iload_n (dt dk_X2_listen 10 rfl) rfl ?_
      refine e_istore [some (.ref 25), none, some (.int v2), some (.int v3), some (.int v4), some (.int v5), some (.int v2), none] (dt dk_X2_listen 11 rfl) rfl rfl rfl ?_
      refine e_iconst (v := (1 : Int32)) (dt dk_X2_listen 12 rfl) (by decide) ?_
      refine e_istore [some (.ref 25), none, some (.int v2), some (.int v3), some (.int v4), some (.int v5), some (.int v2), some (.int (1 : Int32))] (dt dk_X2_listen 13 rfl) rfl rfl rfl ?_
      exact e_forget [true, false, true, true, true, true, true, true] [some (.ref 25), none, some (.int v2), some (.int v3), some (.int v4), some (.int v5), some (.int v2), some (.int (1 : Int32))] ⟨rfl, rfl⟩ (ev_lp_X2_listen_25_25 K6 hK6 FU v2 v3 v4 v5 v2 (1 : Int32) M)
def lp_X2_listen_25_6  : Nat → Int32 → Int32 → Int32 → Int32 → Mem → Option Mem
  | 0 => fun _ _ _ _ _ => none
  | n + 1 => bd_X2_listen_25_6 (lp_X2_listen_25_6 n)
theorem ev_lp_X2_listen_25_6   : ∀ (n : Nat), ∀ (v2 : Int32) (v3 : Int32) (v4 : Int32) (v5 : Int32) (M : Mem), Ev none wV RX2 cX2_listen none 2 6 [some (.ref 25), none, some (.int v2), some (.int v3), some (.int v4), some (.int v5), none, none] [] M (lp_X2_listen_25_6 n v2 v3 v4 v5 M)
  | 0 => fun _ _ _ _ _ => e_none
  | n + 1 => ev_bd_X2_listen_25_6 (lp_X2_listen_25_6 n) (ev_lp_X2_listen_25_6 n)
def f_X2_listen_25 (v1 : Int32) (v2 : Int32) (v3 : Int32) (M : Mem) : Option Mem :=
  (lp_X2_listen_25_6 FU v2 v3 v1 (1 : Int32) M)
set_option maxRecDepth 20000 in
set_option maxHeartbeats 2000000 in
theorem sp_X2_listen_25 (v1 : Int32) (v2 : Int32) (v3 : Int32) (M : Mem) : SpO wV yX2_listen cX2_listen 8 none 2 [.ref 25, .int v1, .int v2, .int v3] M (f_X2_listen_25 v1 v2 v3 M) := by
  refine sp_of (L := [some (.ref 25), some (.int v1), some (.int v2), some (.int v3), none, none, none, none]) rfl (by decide +kernel) rfl rfl ?_
  unfold f_X2_listen_25
  refine e_iload_n (dt dk_X2_listen 0 rfl) rfl ?_
  refine e_istore [some (.ref 25), some (.int v1), some (.int v2), some (.int v3), some (.int v1), none, none, none] (dt dk_X2_listen 1 rfl) rfl rfl rfl ?_
  refine e_iconst (v := (1 : Int32)) (dt dk_X2_listen 2 rfl) (by decide) ?_
  refine e_istore [some (.ref 25), some (.int v1), some (.int v2), some (.int v3), some (.int v1), some (.int (1 : Int32)), none, none] (dt dk_X2_listen 3 rfl) rfl rfl rfl ?_
  exact e_forget [true, false, true, true, true, true, false, false] [some (.ref 25), none, some (.int v2), some (.int v3), some (.int v1), some (.int (1 : Int32)), none, none] ⟨rfl, rfl⟩ (ev_lp_X2_listen_25_6 FU v2 v3 v1 (1 : Int32) M)
-- X6_add_19 (W, depth 1)
def lb_X6_add_19_52  (v1 : Int32) (s0 : Int32) (s1 : Int32) (M : Mem) : Option (Int32 × Mem) :=
  if inb s1 41 then some ((1 : Int32), (up2 (up2 (up2 M 20 (ix s1) s0) 19 2 (maxI (M 19 2) v1)) 19 1 ((M 19 1) + (1 : Int32)))) else none
set_option maxRecDepth 20000 in
set_option maxHeartbeats 2000000 in
theorem ev_lb_X6_add_19_52   (v1 : Int32) (s0 : Int32) (s1 : Int32) (M : Mem) : Ev none wI RX6 cX6_add (some .boolean) 1 52 [some (.ref 19), some (.int v1), none] [.int s0, .int s1, .ref 20] M (lb_X6_add_19_52 v1 s0 s1 M) := by
  unfold lb_X6_add_19_52
  refine e_if (fun h5 => ?_)
  refine e_iast' (dt dk_X6_add 29 rfl) rfl h5 ?_
  refine e_aload_n (dt dk_X6_add 30 rfl) rfl ?_
  refine e_aload_n (dt dk_X6_add 31 rfl) rfl ?_
  refine e_getI (v := (M 19 2)) ci_X6 (dt dk_X6_add 32 rfl) rfl (by decide) rfl fl_X6_21 rfl ?_
  refine e_iload_n (dt dk_X6_add 33 rfl) rfl ?_
  refine e_max ok_max (dt dk_X6_add 34 rfl) ml_X6_38 rfl (by decide) ?_
  show Ev _ _ _ _ _ _ 62 [some (.ref 19), some (.int v1), none] [.int (maxI (M 19 2) v1), .ref 19] (up2 M 20 (ix s1) s0) _
  refine e_putI (ty := .int) ci_X6 (dt dk_X6_add 35 rfl) rfl (by decide) rfl fl_X6_21 rfl (by decide +kernel) rfl rfl ?_
  refine e_aload_n (dt dk_X6_add 36 rfl) rfl ?_
  refine e_dup (dt dk_X6_add 37 rfl) rfl ?_
  refine e_getI (v := (M 19 1)) ci_X6 (dt dk_X6_add 38 rfl) rfl (by decide) rfl fl_X6_25 rfl ?_
  refine e_iconst (v := (1 : Int32)) (dt dk_X6_add 39 rfl) (by decide) ?_
  refine e_iadd (dt dk_X6_add 40 rfl) ?_
  refine e_putI (ty := .int) ci_X6 (dt dk_X6_add 41 rfl) rfl (by decide) rfl fl_X6_25 rfl (by decide +kernel) rfl rfl ?_
  refine e_iconst (v := (1 : Int32)) (dt dk_X6_add 42 rfl) (by decide) ?_
  exact e_iret (dt dk_X6_add 43 rfl) rfl rfl rfl
def f_X6_add_19 (v1 : Int32) (v2 : Int32) (M : Mem) : Option (Int32 × Mem) :=
  (if (8 : Int32) ≤ (M 19 1) then some ((0 : Int32), M) else (if (f_X9_within v1 (0 : Int32) (40 : Int32)) = 0 then some ((0 : Int32), M) else if inb v1 41 then (if (M 20 (ix v1)) = (-1 : Int32) then (lb_X6_add_19_52 v1 v2 v1 M) else if inb v1 41 then (if (M 20 (ix v1)) = v2 then (lb_X6_add_19_52 v1 v2 v1 M) else (lb_X6_add_19_52 v1 (-2 : Int32) v1 M)) else none) else none))
set_option maxRecDepth 20000 in
set_option maxHeartbeats 2000000 in
theorem sp_X6_add_19 (v1 : Int32) (v2 : Int32) (M : Mem) : SpO wI yX6_add cX6_add 3 (some .boolean) 1 [.ref 19, .int v1, .int v2] M (f_X6_add_19 v1 v2 M) := by
  refine sp_of (L := [some (.ref 19), some (.int v1), some (.int v2)]) rfl (by decide +kernel) rfl rfl ?_
  unfold f_X6_add_19
  refine e_aload_n (dt dk_X6_add 0 rfl) rfl ?_
  refine e_getI (v := (M 19 1)) ci_X6 (dt dk_X6_add 1 rfl) rfl (by decide) rfl fl_X6_25 rfl ?_
  refine e_bipush (v := (8 : Int32)) (dt dk_X6_add 2 rfl) (by decide) ?_
  refine e_icmp_ge 19 (dt dk_X6_add 3 rfl) (by decide) (fun h1 => ?_) (fun h1 => ?_)
  · refine e_iconst (v := (0 : Int32)) (dt dk_X6_add 9 rfl) (by decide) ?_
    exact e_iret (dt dk_X6_add 10 rfl) rfl rfl rfl
  · refine e_iload_n (dt dk_X6_add 4 rfl) rfl ?_
    refine e_iconst (v := (0 : Int32)) (dt dk_X6_add 5 rfl) (by decide) ?_
    refine e_bipush (v := (40 : Int32)) (dt dk_X6_add 6 rfl) (by decide) ?_
    refine ev_callT (ca_SN ms_X9_within (sp_X9_within v1 (0 : Int32) (40 : Int32) M) (dt dk_X6_add 7 rfl) mn_X6_34 rfl rfl rfl (by decide) : Ca _ _ _ _ _ _ _ _ [] _ _) ?_
    show Ev _ _ _ _ _ _ 16 [some (.ref 19), some (.int v1), some (.int v2)] [.int (f_X9_within v1 (0 : Int32) (40 : Int32))] M _
    refine e_if_ne 21 (dt dk_X6_add 8 rfl) (by decide) (fun h2 => ?_) (fun h2 => ?_)
    · refine e_iconst (v := (0 : Int32)) (dt dk_X6_add 9 rfl) (by decide) ?_
      exact e_iret (dt dk_X6_add 10 rfl) rfl rfl rfl
    · refine e_aload_n (dt dk_X6_add 11 rfl) rfl ?_
      refine e_getR ci_X6 (dt dk_X6_add 12 rfl) rfl (by decide) rfl fl_X6_9 ?_
      refine e_iload_n (dt dk_X6_add 13 rfl) rfl ?_
      refine e_aload_n (dt dk_X6_add 14 rfl) rfl ?_
      refine e_getR ci_X6 (dt dk_X6_add 15 rfl) rfl (by decide) rfl fl_X6_9 ?_
      refine e_iload_n (dt dk_X6_add 16 rfl) rfl ?_
      refine e_if (fun h3 => ?_)
      refine e_iald' (v := (M 20 (ix v1))) (dt dk_X6_add 17 rfl) rfl h3 rfl ?_
      refine e_iconst (v := (-1 : Int32)) (dt dk_X6_add 18 rfl) (by decide) ?_
      refine e_icmp_eq 46 (dt dk_X6_add 19 rfl) (by decide) (fun h4 => ?_) (fun h4 => ?_)
      · refine e_iload_n (dt dk_X6_add 26 rfl) rfl ?_
        refine e_goto 52 (dt dk_X6_add 27 rfl) (by decide) ?_
        exact e_forget [true, true, false] [some (.ref 19), some (.int v1), none] ⟨rfl, rfl⟩ (ev_lb_X6_add_19_52 v1 v2 v1 M)
      · refine e_aload_n (dt dk_X6_add 20 rfl) rfl ?_
        refine e_getR ci_X6 (dt dk_X6_add 21 rfl) rfl (by decide) rfl fl_X6_9 ?_
        refine e_iload_n (dt dk_X6_add 22 rfl) rfl ?_
        refine e_if (fun h6 => ?_)
        refine e_iald' (v := (M 20 (ix v1))) (dt dk_X6_add 23 rfl) rfl h6 rfl ?_
        refine e_iload_n (dt dk_X6_add 24 rfl) rfl ?_
        refine e_icmp_ne 50 (dt dk_X6_add 25 rfl) (by decide) (fun h7 => ?_) (fun h7 => ?_)
        · refine e_iload_n (dt dk_X6_add 26 rfl) rfl ?_
          refine e_goto 52 (dt dk_X6_add 27 rfl) (by decide) ?_
          exact e_forget [true, true, false] [some (.ref 19), some (.int v1), none] ⟨rfl, rfl⟩ (ev_lb_X6_add_19_52 v1 v2 v1 M)
        · refine e_bipush (v := (-2 : Int32)) (dt dk_X6_add 28 rfl) (by decide) ?_
          exact e_forget [true, true, false] [some (.ref 19), some (.int v1), none] ⟨rfl, rfl⟩ (ev_lb_X6_add_19_52 v1 (-2 : Int32) v1 M)
-- J7_fill_53178_20 (W, depth 0)
def bd_J7_fill_53178_20_5  (K5 : Int32 → Int32 → Int32 → Mem → Option Mem) (v1 : Int32) (v2 : Int32) (v3 : Int32) (M : Mem) : Option Mem :=
  (if v3 ≤ v2 then some M else if inb v2 41 then (K5 v1 (v2 + (1 : Int32)) v3 (up2 M 20 (ix v2) v1)) else none)
set_option maxRecDepth 20000 in
set_option maxHeartbeats 2000000 in
theorem ev_bd_J7_fill_53178_20_5  (K5 : Int32 → Int32 → Int32 → Mem → Option Mem)  (hK5 : ∀ (v1 : Int32) (v2 : Int32) (v3 : Int32) (M : Mem), Ev none wV RJ7 cJ7_fill_53178 none 0 5 [some (.ref 20), some (.int v1), some (.int v2), some (.int v3)] [] M (K5 v1 v2 v3 M)) (v1 : Int32) (v2 : Int32) (v3 : Int32) (M : Mem) : Ev none wV RJ7 cJ7_fill_53178 none 0 5 [some (.ref 20), some (.int v1), some (.int v2), some (.int v3)] [] M (bd_J7_fill_53178_20_5 K5 v1 v2 v3 M) := by
  unfold bd_J7_fill_53178_20_5
  refine e_iload_n (dt dk_J7_fill_53178 5 rfl) rfl ?_
  refine e_iload_n (dt dk_J7_fill_53178 6 rfl) rfl ?_
  refine e_icmp_ge 20 (dt dk_J7_fill_53178 7 rfl) (by decide) (fun h1 => ?_) (fun h1 => ?_)
  · exact e_vret (dt dk_J7_fill_53178 14 rfl) rfl rfl
  · refine e_aload_n (dt dk_J7_fill_53178 8 rfl) rfl ?_
    refine e_iload_n (dt dk_J7_fill_53178 9 rfl) rfl ?_
    refine e_iload_n (dt dk_J7_fill_53178 10 rfl) rfl ?_
    refine e_if (fun h2 => ?_)
    refine e_iast' (dt dk_J7_fill_53178 11 rfl) rfl h2 ?_
    refine e_iinc [some (.ref 20), some (.int v1), some (.int (v2 + (1 : Int32))), some (.int v3)] (dt dk_J7_fill_53178 12 rfl) rfl rfl rfl rfl ?_
    refine e_goto 5 (dt dk_J7_fill_53178 13 rfl) (by decide) ?_
    exact e_forget [true, true, true, true] [some (.ref 20), some (.int v1), some (.int (v2 + (1 : Int32))), some (.int v3)] ⟨rfl, rfl⟩ (hK5 v1 (v2 + (1 : Int32)) v3 (up2 M 20 (ix v2) v1))
def lp_J7_fill_53178_20_5  : Nat → Int32 → Int32 → Int32 → Mem → Option Mem
  | 0 => fun _ _ _ _ => none
  | n + 1 => bd_J7_fill_53178_20_5 (lp_J7_fill_53178_20_5 n)
theorem ev_lp_J7_fill_53178_20_5   : ∀ (n : Nat), ∀ (v1 : Int32) (v2 : Int32) (v3 : Int32) (M : Mem), Ev none wV RJ7 cJ7_fill_53178 none 0 5 [some (.ref 20), some (.int v1), some (.int v2), some (.int v3)] [] M (lp_J7_fill_53178_20_5 n v1 v2 v3 M)
  | 0 => fun _ _ _ _ => e_none
  | n + 1 => ev_bd_J7_fill_53178_20_5 (lp_J7_fill_53178_20_5 n) (ev_lp_J7_fill_53178_20_5 n)
def f_J7_fill_53178_20 (v1 : Int32) (M : Mem) : Option Mem :=
  (lp_J7_fill_53178_20_5 FU v1 (0 : Int32) (41 : Int32) M)
set_option maxRecDepth 20000 in
set_option maxHeartbeats 2000000 in
theorem sp_J7_fill_53178_20 (v1 : Int32) (M : Mem) : SpO wV yJ7_fill_53178 cJ7_fill_53178 4 none 0 [.ref 20, .int v1] M (f_J7_fill_53178_20 v1 M) := by
  refine sp_of (L := [some (.ref 20), some (.int v1), none, none]) rfl (by decide +kernel) rfl rfl ?_
  unfold f_J7_fill_53178_20
  refine e_iconst (v := (0 : Int32)) (dt dk_J7_fill_53178 0 rfl) (by decide) ?_
  refine e_istore_n [some (.ref 20), some (.int v1), some (.int (0 : Int32)), none] (dt dk_J7_fill_53178 1 rfl) rfl rfl rfl ?_
  refine e_aload_n (dt dk_J7_fill_53178 2 rfl) rfl ?_
  refine e_len (v := (41 : Int32)) (dt dk_J7_fill_53178 3 rfl) rfl (by decide) ?_
  refine e_istore_n [some (.ref 20), some (.int v1), some (.int (0 : Int32)), some (.int (41 : Int32))] (dt dk_J7_fill_53178 4 rfl) rfl rfl rfl ?_
  exact e_forget [true, true, true, true] [some (.ref 20), some (.int v1), some (.int (0 : Int32)), some (.int (41 : Int32))] ⟨rfl, rfl⟩ (ev_lp_J7_fill_53178_20_5 FU v1 (0 : Int32) (41 : Int32) M)
-- X6_clear_19 (W, depth 1)
def f_X6_clear_19  (M : Mem) : Option Mem :=
  ((f_J7_fill_53178_20 (-1 : Int32) M)).bind fun q1 => some (up2 (up2 q1 19 1 (0 : Int32)) 19 2 (-1 : Int32))
set_option maxRecDepth 20000 in
set_option maxHeartbeats 2000000 in
theorem sp_X6_clear_19  (M : Mem) : SpO wV yX6_clear cX6_clear 1 none 1 [.ref 19] M (f_X6_clear_19 M) := by
  refine sp_of (L := [some (.ref 19)]) rfl (by decide +kernel) rfl rfl ?_
  unfold f_X6_clear_19
  refine e_aload_n (dt dk_X6_clear 0 rfl) rfl ?_
  refine e_getR ci_X6 (dt dk_X6_clear 1 rfl) rfl (by decide) rfl fl_X6_9 ?_
  refine e_iconst (v := (-1 : Int32)) (dt dk_X6_clear 2 rfl) (by decide) ?_
  refine ev_call (ca_S ms_J7_fill_53178 (sp_J7_fill_53178_20 (-1 : Int32) M) (dt dk_X6_clear 3 rfl) ml_X6_15 rfl rfl rfl (by decide) : Ca _ _ _ _ _ _ _ _ [] _ _) (fun q1 hq1 => ?_)
  show Ev _ _ _ _ _ _ 8 [some (.ref 19)] [] q1 _
  refine e_aload_n (dt dk_X6_clear 4 rfl) rfl ?_
  refine e_iconst (v := (0 : Int32)) (dt dk_X6_clear 5 rfl) (by decide) ?_
  refine e_putI (ty := .int) ci_X6 (dt dk_X6_clear 6 rfl) rfl (by decide) rfl fl_X6_25 rfl (by decide +kernel) rfl rfl ?_
  refine e_aload_n (dt dk_X6_clear 7 rfl) rfl ?_
  refine e_iconst (v := (-1 : Int32)) (dt dk_X6_clear 8 rfl) (by decide) ?_
  refine e_putI (ty := .int) ci_X6 (dt dk_X6_clear 9 rfl) rfl (by decide) rfl fl_X6_21 rfl (by decide +kernel) rfl rfl ?_
  exact e_vret (dt dk_X6_clear 10 rfl) rfl rfl
-- X6_agree_19 (R, depth 2)
def lb_X6_agree_19_45 (M : Mem) (K5 : Int32 → Int32 → Int32 → Option Int32) (v2 : Int32) (v3 : Int32) (v4 : Int32) : Option Int32 :=
  (K5 v2 (f_X9_grown v3 v2) (v4 + (1 : Int32)))
set_option maxRecDepth 20000 in
set_option maxHeartbeats 2000000 in
theorem ev_lb_X6_agree_19_45 (M : Mem) (K5 : Int32 → Int32 → Int32 → Option Int32) (hK5 : ∀ (v2 : Int32) (v3 : Int32) (v4 : Int32), Ev none (wR M) RX6 cX6_agree (some .boolean) 2 5 [some (.ref 19), none, some (.int v2), some (.int v3), some (.int v4)] [] M (K5 v2 v3 v4)) (v2 : Int32) (v3 : Int32) (v4 : Int32) : Ev none (wR M) RX6 cX6_agree (some .boolean) 2 45 [some (.ref 19), none, some (.int v2), some (.int v3), some (.int v4)] [] M (lb_X6_agree_19_45 M K5 v2 v3 v4) := by
  unfold lb_X6_agree_19_45
  refine e_iload_n (dt dk_X6_agree 25 rfl) rfl ?_
  refine e_iload_n (dt dk_X6_agree 26 rfl) rfl ?_
  refine ev_callT (ca_SN ms_X9_grown (sp_X9_grown v3 v2 M) (dt dk_X6_agree 27 rfl) mn_X6_44 rfl rfl rfl (by decide) : Ca _ _ _ _ _ _ _ _ [] _ _) ?_
  show Ev _ _ _ _ _ _ 50 [some (.ref 19), none, some (.int v2), some (.int v3), some (.int v4)] [.int (f_X9_grown v3 v2)] M _
  refine e_istore_n [some (.ref 19), none, some (.int v2), some (.int (f_X9_grown v3 v2)), some (.int v4)] (dt dk_X6_agree 28 rfl) rfl rfl rfl ?_
  refine e_iinc [some (.ref 19), none, some (.int v2), some (.int (f_X9_grown v3 v2)), some (.int (v4 + (1 : Int32)))] (dt dk_X6_agree 29 rfl) rfl rfl rfl rfl ?_
  refine e_goto 5 (dt dk_X6_agree 30 rfl) (by decide) ?_
  exact e_forget [true, false, true, true, true] [some (.ref 19), none, some (.int v2), some (.int (f_X9_grown v3 v2)), some (.int (v4 + (1 : Int32)))] ⟨rfl, rfl⟩ (hK5 v2 (f_X9_grown v3 v2) (v4 + (1 : Int32)))
def bd_X6_agree_19_5 (M : Mem)  (K5 : Int32 → Int32 → Int32 → Option Int32) (v2 : Int32) (v3 : Int32) (v4 : Int32) : Option Int32 :=
  (if (M 19 2) < v4 then some (1 : Int32) else (if (40 : Int32) < v4 then some (1 : Int32) else if inb v4 41 then (if (M 20 (ix v4)) = (-1 : Int32) then (lb_X6_agree_19_45 M K5 v2 v3 v4) else if inb v4 41 then (if (M 20 (ix v4)) = v3 then (lb_X6_agree_19_45 M K5 v2 v3 v4) else some (0 : Int32)) else none) else none))
set_option maxRecDepth 20000 in
set_option maxHeartbeats 2000000 in
theorem ev_bd_X6_agree_19_5 (M : Mem)  (K5 : Int32 → Int32 → Int32 → Option Int32)  (hK5 : ∀ (v2 : Int32) (v3 : Int32) (v4 : Int32), Ev none (wR M) RX6 cX6_agree (some .boolean) 2 5 [some (.ref 19), none, some (.int v2), some (.int v3), some (.int v4)] [] M (K5 v2 v3 v4)) (v2 : Int32) (v3 : Int32) (v4 : Int32) : Ev none (wR M) RX6 cX6_agree (some .boolean) 2 5 [some (.ref 19), none, some (.int v2), some (.int v3), some (.int v4)] [] M (bd_X6_agree_19_5 M K5 v2 v3 v4) := by
  unfold bd_X6_agree_19_5
  refine e_iload (dt dk_X6_agree 4 rfl) rfl ?_
  refine e_aload_n (dt dk_X6_agree 5 rfl) rfl ?_
  refine e_getI (v := (M 19 2)) ci_X6 (dt dk_X6_agree 6 rfl) rfl (by decide) rfl fl_X6_21 rfl ?_
  refine e_icmp_gt 57 (dt dk_X6_agree 7 rfl) (by decide) (fun h1 => ?_) (fun h1 => ?_)
  · refine e_iconst (v := (1 : Int32)) (dt dk_X6_agree 31 rfl) (by decide) ?_
    exact e_iret (dt dk_X6_agree 32 rfl) rfl rfl rfl
  · refine e_iload (dt dk_X6_agree 8 rfl) rfl ?_
    refine e_bipush (v := (40 : Int32)) (dt dk_X6_agree 9 rfl) (by decide) ?_
    refine e_icmp_gt 57 (dt dk_X6_agree 10 rfl) (by decide) (fun h2 => ?_) (fun h2 => ?_)
    · refine e_iconst (v := (1 : Int32)) (dt dk_X6_agree 31 rfl) (by decide) ?_
      exact e_iret (dt dk_X6_agree 32 rfl) rfl rfl rfl
    · refine e_aload_n (dt dk_X6_agree 11 rfl) rfl ?_
      refine e_getR ci_X6 (dt dk_X6_agree 12 rfl) rfl (by decide) rfl fl_X6_9 ?_
      refine e_iload (dt dk_X6_agree 13 rfl) rfl ?_
      refine e_if (fun h3 => ?_)
      refine e_iald' (v := (M 20 (ix v4))) (dt dk_X6_agree 14 rfl) rfl h3 rfl ?_
      refine e_iconst (v := (-1 : Int32)) (dt dk_X6_agree 15 rfl) (by decide) ?_
      refine e_icmp_eq 45 (dt dk_X6_agree 16 rfl) (by decide) (fun h4 => ?_) (fun h4 => ?_)
      · exact e_forget [true, false, true, true, true] [some (.ref 19), none, some (.int v2), some (.int v3), some (.int v4)] ⟨rfl, rfl⟩ (ev_lb_X6_agree_19_45 M K5 hK5 v2 v3 v4)
      · refine e_aload_n (dt dk_X6_agree 17 rfl) rfl ?_
        refine e_getR ci_X6 (dt dk_X6_agree 18 rfl) rfl (by decide) rfl fl_X6_9 ?_
        refine e_iload (dt dk_X6_agree 19 rfl) rfl ?_
        refine e_if (fun h5 => ?_)
        refine e_iald' (v := (M 20 (ix v4))) (dt dk_X6_agree 20 rfl) rfl h5 rfl ?_
        refine e_iload_n (dt dk_X6_agree 21 rfl) rfl ?_
        refine e_icmp_eq 45 (dt dk_X6_agree 22 rfl) (by decide) (fun h6 => ?_) (fun h6 => ?_)
        · exact e_forget [true, false, true, true, true] [some (.ref 19), none, some (.int v2), some (.int v3), some (.int v4)] ⟨rfl, rfl⟩ (ev_lb_X6_agree_19_45 M K5 hK5 v2 v3 v4)
        · refine e_iconst (v := (0 : Int32)) (dt dk_X6_agree 23 rfl) (by decide) ?_
          exact e_iret (dt dk_X6_agree 24 rfl) rfl rfl rfl
def lp_X6_agree_19_5 (M : Mem)  : Nat → Int32 → Int32 → Int32 → Option Int32
  | 0 => fun _ _ _ => none
  | n + 1 => bd_X6_agree_19_5 M (lp_X6_agree_19_5 M n)
theorem ev_lp_X6_agree_19_5 (M : Mem)   : ∀ (n : Nat), ∀ (v2 : Int32) (v3 : Int32) (v4 : Int32), Ev none (wR M) RX6 cX6_agree (some .boolean) 2 5 [some (.ref 19), none, some (.int v2), some (.int v3), some (.int v4)] [] M (lp_X6_agree_19_5 M n v2 v3 v4)
  | 0 => fun _ _ _ => e_none
  | n + 1 => ev_bd_X6_agree_19_5 M (lp_X6_agree_19_5 M n) (ev_lp_X6_agree_19_5 M n)
def f_X6_agree_19 (v1 : Int32) (v2 : Int32) (M : Mem) : Option Int32 :=
  (lp_X6_agree_19_5 M FU v2 v1 (0 : Int32))
set_option maxRecDepth 20000 in
set_option maxHeartbeats 2000000 in
theorem sp_X6_agree_19 (v1 : Int32) (v2 : Int32) (M : Mem) : SpO (wR M) yX6_agree cX6_agree 5 (some .boolean) 2 [.ref 19, .int v1, .int v2] M (f_X6_agree_19 v1 v2 M) := by
  refine sp_of (L := [some (.ref 19), some (.int v1), some (.int v2), none, none]) rfl (by decide +kernel) rfl rfl ?_
  unfold f_X6_agree_19
  refine e_iload_n (dt dk_X6_agree 0 rfl) rfl ?_
  refine e_istore_n [some (.ref 19), some (.int v1), some (.int v2), some (.int v1), none] (dt dk_X6_agree 1 rfl) rfl rfl rfl ?_
  refine e_iconst (v := (0 : Int32)) (dt dk_X6_agree 2 rfl) (by decide) ?_
  refine e_istore [some (.ref 19), some (.int v1), some (.int v2), some (.int v1), some (.int (0 : Int32))] (dt dk_X6_agree 3 rfl) rfl rfl rfl ?_
  exact e_forget [true, false, true, true, true] [some (.ref 19), none, some (.int v2), some (.int v1), some (.int (0 : Int32))] ⟨rfl, rfl⟩ (ev_lp_X6_agree_19_5 M FU v2 v1 (0 : Int32))
-- X1_gather_21_19 (W, depth 3)
def bd_X1_gather_21_19_15 (K7 : Int32 → Mem → Option Mem) (K15 : Int32 → Int32 → Mem → Option Mem) (v2 : Int32) (v3 : Int32) (M : Mem) : Option Mem :=
  (if (9 : Int32) < v3 then (K7 (v2 + (1 : Int32)) M) else (if (90 : Int32) ≤ (M 21 3) then (K15 v2 (v3 + (1 : Int32)) M) else ((f_X6_agree_19 v2 v3 M)).bind fun r4 => (if r4 = 0 then (K15 v2 (v3 + (1 : Int32)) M) else if inb (M 21 3) 90 then if inb (M 21 3) 90 then (K15 v2 (v3 + (1 : Int32)) (up2 (up2 (up2 M 22 (ix (M 21 3)) v2) 23 (ix (M 21 3)) v3) 21 3 ((M 21 3) + (1 : Int32)))) else none else none)))
set_option maxRecDepth 20000 in
set_option maxHeartbeats 2000000 in
theorem ev_bd_X1_gather_21_19_15 (K7 : Int32 → Mem → Option Mem) (K15 : Int32 → Int32 → Mem → Option Mem) (hK7 : ∀ (v2 : Int32) (M : Mem), Ev none wV RX1 cX1_gather none 3 7 [some (.ref 21), some (.ref 19), some (.int v2), none] [] M (K7 v2 M)) (hK15 : ∀ (v2 : Int32) (v3 : Int32) (M : Mem), Ev none wV RX1 cX1_gather none 3 15 [some (.ref 21), some (.ref 19), some (.int v2), some (.int v3)] [] M (K15 v2 v3 M)) (v2 : Int32) (v3 : Int32) (M : Mem) : Ev none wV RX1 cX1_gather none 3 15 [some (.ref 21), some (.ref 19), some (.int v2), some (.int v3)] [] M (bd_X1_gather_21_19_15 K7 K15 v2 v3 M) := by
  unfold bd_X1_gather_21_19_15
  refine e_iload_n (dt dk_X1_gather 10 rfl) rfl ?_
  refine e_bipush (v := (9 : Int32)) (dt dk_X1_gather 11 rfl) (by decide) ?_
  refine e_icmp_gt 75 (dt dk_X1_gather 12 rfl) (by decide) (fun h2 => ?_) (fun h2 => ?_)
  · refine e_iinc [some (.ref 21), some (.ref 19), some (.int (v2 + (1 : Int32))), some (.int v3)] (dt dk_X1_gather 42 rfl) rfl rfl rfl rfl ?_
    refine e_goto 7 (dt dk_X1_gather 43 rfl) (by decide) ?_
    exact e_forget [true, true, true, false] [some (.ref 21), some (.ref 19), some (.int (v2 + (1 : Int32))), none] ⟨rfl, rfl⟩ (hK7 (v2 + (1 : Int32)) M)
  · refine e_aload_n (dt dk_X1_gather 13 rfl) rfl ?_
    refine e_getI (v := (M 21 3)) ci_X1 (dt dk_X1_gather 14 rfl) rfl (by decide) rfl fl_X1_32 rfl ?_
    refine e_bipush (v := (90 : Int32)) (dt dk_X1_gather 15 rfl) (by decide) ?_
    refine e_icmp_ge 69 (dt dk_X1_gather 16 rfl) (by decide) (fun h3 => ?_) (fun h3 => ?_)
    · refine e_iinc [some (.ref 21), some (.ref 19), some (.int v2), some (.int (v3 + (1 : Int32)))] (dt dk_X1_gather 40 rfl) rfl rfl rfl rfl ?_
      refine e_goto 15 (dt dk_X1_gather 41 rfl) (by decide) ?_
      exact e_forget [true, true, true, true] [some (.ref 21), some (.ref 19), some (.int v2), some (.int (v3 + (1 : Int32)))] ⟨rfl, rfl⟩ (hK15 v2 (v3 + (1 : Int32)) M)
    · refine e_aload_n (dt dk_X1_gather 17 rfl) rfl ?_
      refine e_iload_n (dt dk_X1_gather 18 rfl) rfl ?_
      refine e_iload_n (dt dk_X1_gather 19 rfl) rfl ?_
      refine ev_call (ca_V (k := 19) mv_X6_agree (sp_X6_agree_19 v2 v3 M) (dt dk_X1_gather 20 rfl) ml_X1_42 rfl rfl rfl rfl rfl (by decide) : Ca _ _ _ _ _ _ _ _ [] _ _) (fun r4 hr4 => ?_)
      show Ev _ _ _ _ _ _ 36 [some (.ref 21), some (.ref 19), some (.int v2), some (.int v3)] [.int r4] M _
      refine e_if_eq 69 (dt dk_X1_gather 21 rfl) (by decide) (fun h5 => ?_) (fun h5 => ?_)
      · refine e_iinc [some (.ref 21), some (.ref 19), some (.int v2), some (.int (v3 + (1 : Int32)))] (dt dk_X1_gather 40 rfl) rfl rfl rfl rfl ?_
        refine e_goto 15 (dt dk_X1_gather 41 rfl) (by decide) ?_
        exact e_forget [true, true, true, true] [some (.ref 21), some (.ref 19), some (.int v2), some (.int (v3 + (1 : Int32)))] ⟨rfl, rfl⟩ (hK15 v2 (v3 + (1 : Int32)) M)
      · refine e_aload_n (dt dk_X1_gather 22 rfl) rfl ?_
        refine e_getR ci_X1 (dt dk_X1_gather 23 rfl) rfl (by decide) rfl fl_X1_9 ?_
        refine e_aload_n (dt dk_X1_gather 24 rfl) rfl ?_
        refine e_getI (v := (M 21 3)) ci_X1 (dt dk_X1_gather 25 rfl) rfl (by decide) rfl fl_X1_32 rfl ?_
        refine e_iload_n (dt dk_X1_gather 26 rfl) rfl ?_
        refine e_if (fun h6 => ?_)
        refine e_iast' (dt dk_X1_gather 27 rfl) rfl h6 ?_
        refine e_aload_n (dt dk_X1_gather 28 rfl) rfl ?_
        refine e_getR ci_X1 (dt dk_X1_gather 29 rfl) rfl (by decide) rfl fl_X1_15 ?_
        refine e_aload_n (dt dk_X1_gather 30 rfl) rfl ?_
        refine e_getI (v := (M 21 3)) ci_X1 (dt dk_X1_gather 31 rfl) rfl (by decide) rfl fl_X1_32 rfl ?_
        refine e_iload_n (dt dk_X1_gather 32 rfl) rfl ?_
        refine e_if (fun h7 => ?_)
        refine e_iast' (dt dk_X1_gather 33 rfl) rfl h7 ?_
        refine e_aload_n (dt dk_X1_gather 34 rfl) rfl ?_
        refine e_dup (dt dk_X1_gather 35 rfl) rfl ?_
        refine e_getI (v := (M 21 3)) ci_X1 (dt dk_X1_gather 36 rfl) rfl (by decide) rfl fl_X1_32 rfl ?_
        refine e_iconst (v := (1 : Int32)) (dt dk_X1_gather 37 rfl) (by decide) ?_
        refine e_iadd (dt dk_X1_gather 38 rfl) ?_
        refine e_putI (ty := .int) ci_X1 (dt dk_X1_gather 39 rfl) rfl (by decide) rfl fl_X1_32 rfl (by decide +kernel) rfl rfl ?_
        refine e_iinc [some (.ref 21), some (.ref 19), some (.int v2), some (.int (v3 + (1 : Int32)))] (dt dk_X1_gather 40 rfl) rfl rfl rfl rfl ?_
        refine e_goto 15 (dt dk_X1_gather 41 rfl) (by decide) ?_
        exact e_forget [true, true, true, true] [some (.ref 21), some (.ref 19), some (.int v2), some (.int (v3 + (1 : Int32)))] ⟨rfl, rfl⟩ (hK15 v2 (v3 + (1 : Int32)) (up2 (up2 (up2 M 22 (ix (M 21 3)) v2) 23 (ix (M 21 3)) v3) 21 3 ((M 21 3) + (1 : Int32))))
def lp_X1_gather_21_19_15 (K7 : Int32 → Mem → Option Mem) : Nat → Int32 → Int32 → Mem → Option Mem
  | 0 => fun _ _ _ => none
  | n + 1 => bd_X1_gather_21_19_15 K7 (lp_X1_gather_21_19_15 K7 n)
theorem ev_lp_X1_gather_21_19_15 (K7 : Int32 → Mem → Option Mem) (hK7 : ∀ (v2 : Int32) (M : Mem), Ev none wV RX1 cX1_gather none 3 7 [some (.ref 21), some (.ref 19), some (.int v2), none] [] M (K7 v2 M)) : ∀ (n : Nat), ∀ (v2 : Int32) (v3 : Int32) (M : Mem), Ev none wV RX1 cX1_gather none 3 15 [some (.ref 21), some (.ref 19), some (.int v2), some (.int v3)] [] M (lp_X1_gather_21_19_15 K7 n v2 v3 M)
  | 0 => fun _ _ _ => e_none
  | n + 1 => ev_bd_X1_gather_21_19_15 K7 (lp_X1_gather_21_19_15 K7 n) hK7 (ev_lp_X1_gather_21_19_15 K7 hK7 n)
def bd_X1_gather_21_19_7  (K7 : Int32 → Mem → Option Mem) (v2 : Int32) (M : Mem) : Option Mem :=
  (if (9 : Int32) < v2 then some M else (lp_X1_gather_21_19_15 K7 FU v2 (0 : Int32) M))
set_option maxRecDepth 20000 in
set_option maxHeartbeats 2000000 in
theorem ev_bd_X1_gather_21_19_7  (K7 : Int32 → Mem → Option Mem)  (hK7 : ∀ (v2 : Int32) (M : Mem), Ev none wV RX1 cX1_gather none 3 7 [some (.ref 21), some (.ref 19), some (.int v2), none] [] M (K7 v2 M)) (v2 : Int32) (M : Mem) : Ev none wV RX1 cX1_gather none 3 7 [some (.ref 21), some (.ref 19), some (.int v2), none] [] M (bd_X1_gather_21_19_7 K7 v2 M) := by
  unfold bd_X1_gather_21_19_7
  refine e_iload_n (dt dk_X1_gather 5 rfl) rfl ?_
  refine e_bipush (v := (9 : Int32)) (dt dk_X1_gather 6 rfl) (by decide) ?_
  refine e_icmp_gt 81 (dt dk_X1_gather 7 rfl) (by decide) (fun h1 => ?_) (fun h1 => ?_)
  · exact e_vret (dt dk_X1_gather 44 rfl) rfl rfl
  · refine e_iconst (v := (0 : Int32)) (dt dk_X1_gather 8 rfl) (by decide) ?_
    refine e_istore_n [some (.ref 21), some (.ref 19), some (.int v2), some (.int (0 : Int32))] (dt dk_X1_gather 9 rfl) rfl rfl rfl ?_
    exact e_forget [true, true, true, true] [some (.ref 21), some (.ref 19), some (.int v2), some (.int (0 : Int32))] ⟨rfl, rfl⟩ (ev_lp_X1_gather_21_19_15 K7 hK7 FU v2 (0 : Int32) M)
def lp_X1_gather_21_19_7  : Nat → Int32 → Mem → Option Mem
  | 0 => fun _ _ => none
  | n + 1 => bd_X1_gather_21_19_7 (lp_X1_gather_21_19_7 n)
theorem ev_lp_X1_gather_21_19_7   : ∀ (n : Nat), ∀ (v2 : Int32) (M : Mem), Ev none wV RX1 cX1_gather none 3 7 [some (.ref 21), some (.ref 19), some (.int v2), none] [] M (lp_X1_gather_21_19_7 n v2 M)
  | 0 => fun _ _ => e_none
  | n + 1 => ev_bd_X1_gather_21_19_7 (lp_X1_gather_21_19_7 n) (ev_lp_X1_gather_21_19_7 n)
def f_X1_gather_21_19  (M : Mem) : Option Mem :=
  (lp_X1_gather_21_19_7 FU (1 : Int32) (up2 M 21 3 (0 : Int32)))
set_option maxRecDepth 20000 in
set_option maxHeartbeats 2000000 in
theorem sp_X1_gather_21_19  (M : Mem) : SpO wV yX1_gather cX1_gather 4 none 3 [.ref 21, .ref 19] M (f_X1_gather_21_19 M) := by
  refine sp_of (L := [some (.ref 21), some (.ref 19), none, none]) rfl (by decide +kernel) rfl rfl ?_
  unfold f_X1_gather_21_19
  refine e_aload_n (dt dk_X1_gather 0 rfl) rfl ?_
  refine e_iconst (v := (0 : Int32)) (dt dk_X1_gather 1 rfl) (by decide) ?_
  refine e_putI (ty := .int) ci_X1 (dt dk_X1_gather 2 rfl) rfl (by decide) rfl fl_X1_32 rfl (by decide +kernel) rfl rfl ?_
  refine e_iconst (v := (1 : Int32)) (dt dk_X1_gather 3 rfl) (by decide) ?_
  refine e_istore_n [some (.ref 21), some (.ref 19), some (.int (1 : Int32)), none] (dt dk_X1_gather 4 rfl) rfl rfl rfl ?_
  exact e_forget [true, true, true, false] [some (.ref 21), some (.ref 19), some (.int (1 : Int32)), none] ⟨rfl, rfl⟩ (ev_lp_X1_gather_21_19_7 FU (1 : Int32) (up2 M 21 3 (0 : Int32)))
-- J7_fill_53178_24 (W, depth 0)
def bd_J7_fill_53178_24_5  (K5 : Int32 → Int32 → Int32 → Mem → Option Mem) (v1 : Int32) (v2 : Int32) (v3 : Int32) (M : Mem) : Option Mem :=
  (if v3 ≤ v2 then some M else if inb v2 100 then (K5 v1 (v2 + (1 : Int32)) v3 (up2 M 24 (ix v2) v1)) else none)
set_option maxRecDepth 20000 in
set_option maxHeartbeats 2000000 in
theorem ev_bd_J7_fill_53178_24_5  (K5 : Int32 → Int32 → Int32 → Mem → Option Mem)  (hK5 : ∀ (v1 : Int32) (v2 : Int32) (v3 : Int32) (M : Mem), Ev none wV RJ7 cJ7_fill_53178 none 0 5 [some (.ref 24), some (.int v1), some (.int v2), some (.int v3)] [] M (K5 v1 v2 v3 M)) (v1 : Int32) (v2 : Int32) (v3 : Int32) (M : Mem) : Ev none wV RJ7 cJ7_fill_53178 none 0 5 [some (.ref 24), some (.int v1), some (.int v2), some (.int v3)] [] M (bd_J7_fill_53178_24_5 K5 v1 v2 v3 M) := by
  unfold bd_J7_fill_53178_24_5
  refine e_iload_n (dt dk_J7_fill_53178 5 rfl) rfl ?_
  refine e_iload_n (dt dk_J7_fill_53178 6 rfl) rfl ?_
  refine e_icmp_ge 20 (dt dk_J7_fill_53178 7 rfl) (by decide) (fun h1 => ?_) (fun h1 => ?_)
  · exact e_vret (dt dk_J7_fill_53178 14 rfl) rfl rfl
  · refine e_aload_n (dt dk_J7_fill_53178 8 rfl) rfl ?_
    refine e_iload_n (dt dk_J7_fill_53178 9 rfl) rfl ?_
    refine e_iload_n (dt dk_J7_fill_53178 10 rfl) rfl ?_
    refine e_if (fun h2 => ?_)
    refine e_iast' (dt dk_J7_fill_53178 11 rfl) rfl h2 ?_
    refine e_iinc [some (.ref 24), some (.int v1), some (.int (v2 + (1 : Int32))), some (.int v3)] (dt dk_J7_fill_53178 12 rfl) rfl rfl rfl rfl ?_
    refine e_goto 5 (dt dk_J7_fill_53178 13 rfl) (by decide) ?_
    exact e_forget [true, true, true, true] [some (.ref 24), some (.int v1), some (.int (v2 + (1 : Int32))), some (.int v3)] ⟨rfl, rfl⟩ (hK5 v1 (v2 + (1 : Int32)) v3 (up2 M 24 (ix v2) v1))
def lp_J7_fill_53178_24_5  : Nat → Int32 → Int32 → Int32 → Mem → Option Mem
  | 0 => fun _ _ _ _ => none
  | n + 1 => bd_J7_fill_53178_24_5 (lp_J7_fill_53178_24_5 n)
theorem ev_lp_J7_fill_53178_24_5   : ∀ (n : Nat), ∀ (v1 : Int32) (v2 : Int32) (v3 : Int32) (M : Mem), Ev none wV RJ7 cJ7_fill_53178 none 0 5 [some (.ref 24), some (.int v1), some (.int v2), some (.int v3)] [] M (lp_J7_fill_53178_24_5 n v1 v2 v3 M)
  | 0 => fun _ _ _ _ => e_none
  | n + 1 => ev_bd_J7_fill_53178_24_5 (lp_J7_fill_53178_24_5 n) (ev_lp_J7_fill_53178_24_5 n)
def f_J7_fill_53178_24 (v1 : Int32) (M : Mem) : Option Mem :=
  (lp_J7_fill_53178_24_5 FU v1 (0 : Int32) (100 : Int32) M)
set_option maxRecDepth 20000 in
set_option maxHeartbeats 2000000 in
theorem sp_J7_fill_53178_24 (v1 : Int32) (M : Mem) : SpO wV yJ7_fill_53178 cJ7_fill_53178 4 none 0 [.ref 24, .int v1] M (f_J7_fill_53178_24 v1 M) := by
  refine sp_of (L := [some (.ref 24), some (.int v1), none, none]) rfl (by decide +kernel) rfl rfl ?_
  unfold f_J7_fill_53178_24
  refine e_iconst (v := (0 : Int32)) (dt dk_J7_fill_53178 0 rfl) (by decide) ?_
  refine e_istore_n [some (.ref 24), some (.int v1), some (.int (0 : Int32)), none] (dt dk_J7_fill_53178 1 rfl) rfl rfl rfl ?_
  refine e_aload_n (dt dk_J7_fill_53178 2 rfl) rfl ?_
  refine e_len (v := (100 : Int32)) (dt dk_J7_fill_53178 3 rfl) rfl (by decide) ?_
  refine e_istore_n [some (.ref 24), some (.int v1), some (.int (0 : Int32)), some (.int (100 : Int32))] (dt dk_J7_fill_53178 4 rfl) rfl rfl rfl ?_
  exact e_forget [true, true, true, true] [some (.ref 24), some (.int v1), some (.int (0 : Int32)), some (.int (100 : Int32))] ⟨rfl, rfl⟩ (ev_lp_J7_fill_53178_24_5 FU v1 (0 : Int32) (100 : Int32) M)
-- X1_mostAlike_21 (W, depth 1)
def bd_X1_mostAlike_21_12  (K12 : Int32 → Int32 → Mem → Option (Int32 × Mem)) (v1 : Int32) (v2 : Int32) (M : Mem) : Option (Int32 × Mem) :=
  (if (M 21 3) ≤ v2 then some (v1, M) else if inb v2 90 then (if (f_X9_within (M 22 (ix v2)) (0 : Int32) (99 : Int32)) = 0 then (K12 v1 (v2 + (1 : Int32)) M) else if inb (M 22 (ix v2)) 100 then if inb (M 22 (ix v2)) 100 then if inb (M 22 (ix v2)) 100 then (K12 (maxI v1 ((up2 M 24 (ix (M 22 (ix v2))) ((M 24 (ix (M 22 (ix v2)))) + (1 : Int32))) 24 (ix (M 22 (ix v2))))) (v2 + (1 : Int32)) (up2 M 24 (ix (M 22 (ix v2))) ((M 24 (ix (M 22 (ix v2)))) + (1 : Int32)))) else none else none else none) else none)
set_option maxRecDepth 20000 in
set_option maxHeartbeats 2000000 in
theorem ev_bd_X1_mostAlike_21_12  (K12 : Int32 → Int32 → Mem → Option (Int32 × Mem))  (hK12 : ∀ (v1 : Int32) (v2 : Int32) (M : Mem), Ev none wI RX1 cX1_mostAlike (some .int) 1 12 [some (.ref 21), some (.int v1), some (.int v2), none] [] M (K12 v1 v2 M)) (v1 : Int32) (v2 : Int32) (M : Mem) : Ev none wI RX1 cX1_mostAlike (some .int) 1 12 [some (.ref 21), some (.int v1), some (.int v2), none] [] M (bd_X1_mostAlike_21_12 K12 v1 v2 M) := by
  unfold bd_X1_mostAlike_21_12
  refine e_iload_n (dt dk_X1_mostAlike 8 rfl) rfl ?_
  refine e_aload_n (dt dk_X1_mostAlike 9 rfl) rfl ?_
  refine e_getI (v := (M 21 3)) ci_X1 (dt dk_X1_mostAlike 10 rfl) rfl (by decide) rfl fl_X1_32 rfl ?_
  refine e_icmp_ge 64 (dt dk_X1_mostAlike 11 rfl) (by decide) (fun h2 => ?_) (fun h2 => ?_)
  · refine e_iload_n (dt dk_X1_mostAlike 39 rfl) rfl ?_
    exact e_iret (dt dk_X1_mostAlike 40 rfl) rfl rfl rfl
  · refine e_aload_n (dt dk_X1_mostAlike 12 rfl) rfl ?_
    refine e_getR ci_X1 (dt dk_X1_mostAlike 13 rfl) rfl (by decide) rfl fl_X1_9 ?_
    refine e_iload_n (dt dk_X1_mostAlike 14 rfl) rfl ?_
    refine e_if (fun h3 => ?_)
    refine e_iald' (v := (M 22 (ix v2))) (dt dk_X1_mostAlike 15 rfl) rfl h3 rfl ?_
    refine e_istore_n [some (.ref 21), some (.int v1), some (.int v2), some (.int (M 22 (ix v2)))] (dt dk_X1_mostAlike 16 rfl) rfl rfl rfl ?_
    refine e_iload_n (dt dk_X1_mostAlike 17 rfl) rfl ?_
    refine e_iconst (v := (0 : Int32)) (dt dk_X1_mostAlike 18 rfl) (by decide) ?_
    refine e_bipush (v := (99 : Int32)) (dt dk_X1_mostAlike 19 rfl) (by decide) ?_
    refine ev_callT (ca_SN ms_X9_within (sp_X9_within (M 22 (ix v2)) (0 : Int32) (99 : Int32) M) (dt dk_X1_mostAlike 20 rfl) mn_X1_54 rfl rfl rfl (by decide) : Ca _ _ _ _ _ _ _ _ [] _ _) ?_
    show Ev _ _ _ _ _ _ 34 [some (.ref 21), some (.int v1), some (.int v2), some (.int (M 22 (ix v2)))] [.int (f_X9_within (M 22 (ix v2)) (0 : Int32) (99 : Int32))] M _
    refine e_if_eq 58 (dt dk_X1_mostAlike 21 rfl) (by decide) (fun h4 => ?_) (fun h4 => ?_)
    · refine e_iinc [some (.ref 21), some (.int v1), some (.int (v2 + (1 : Int32))), some (.int (M 22 (ix v2)))] (dt dk_X1_mostAlike 37 rfl) rfl rfl rfl rfl ?_
      refine e_goto 12 (dt dk_X1_mostAlike 38 rfl) (by decide) ?_
      exact e_forget [true, true, true, false] [some (.ref 21), some (.int v1), some (.int (v2 + (1 : Int32))), none] ⟨rfl, rfl⟩ (hK12 v1 (v2 + (1 : Int32)) M)
    · refine e_aload_n (dt dk_X1_mostAlike 22 rfl) rfl ?_
      refine e_getR ci_X1 (dt dk_X1_mostAlike 23 rfl) rfl (by decide) rfl fl_X1_18 ?_
      refine e_iload_n (dt dk_X1_mostAlike 24 rfl) rfl ?_
      refine e_dup2 (dt dk_X1_mostAlike 25 rfl) rfl rfl ?_
      refine e_if (fun h5 => ?_)
      refine e_iald' (v := (M 24 (ix (M 22 (ix v2))))) (dt dk_X1_mostAlike 26 rfl) rfl h5 rfl ?_
      refine e_iconst (v := (1 : Int32)) (dt dk_X1_mostAlike 27 rfl) (by decide) ?_
      refine e_iadd (dt dk_X1_mostAlike 28 rfl) ?_
      refine e_if (fun h6 => ?_)
      refine e_iast' (dt dk_X1_mostAlike 29 rfl) rfl h6 ?_
      refine e_iload_n (dt dk_X1_mostAlike 30 rfl) rfl ?_
      refine e_aload_n (dt dk_X1_mostAlike 31 rfl) rfl ?_
      refine e_getR ci_X1 (dt dk_X1_mostAlike 32 rfl) rfl (by decide) rfl fl_X1_18 ?_
      refine e_iload_n (dt dk_X1_mostAlike 33 rfl) rfl ?_
      refine e_if (fun h7 => ?_)
      refine e_iald' (v := ((up2 M 24 (ix (M 22 (ix v2))) ((M 24 (ix (M 22 (ix v2)))) + (1 : Int32))) 24 (ix (M 22 (ix v2))))) (dt dk_X1_mostAlike 34 rfl) rfl h7 rfl ?_
      refine e_max ok_max (dt dk_X1_mostAlike 35 rfl) ml_X1_58 rfl (by decide) ?_
      show Ev _ _ _ _ _ _ 57 [some (.ref 21), some (.int v1), some (.int v2), some (.int (M 22 (ix v2)))] [.int (maxI v1 ((up2 M 24 (ix (M 22 (ix v2))) ((M 24 (ix (M 22 (ix v2)))) + (1 : Int32))) 24 (ix (M 22 (ix v2)))))] (up2 M 24 (ix (M 22 (ix v2))) ((M 24 (ix (M 22 (ix v2)))) + (1 : Int32))) _
      refine e_istore_n [some (.ref 21), some (.int (maxI v1 ((up2 M 24 (ix (M 22 (ix v2))) ((M 24 (ix (M 22 (ix v2)))) + (1 : Int32))) 24 (ix (M 22 (ix v2)))))), some (.int v2), some (.int (M 22 (ix v2)))] (dt dk_X1_mostAlike 36 rfl) rfl rfl rfl ?_
      refine e_iinc [some (.ref 21), some (.int (maxI v1 ((up2 M 24 (ix (M 22 (ix v2))) ((M 24 (ix (M 22 (ix v2)))) + (1 : Int32))) 24 (ix (M 22 (ix v2)))))), some (.int (v2 + (1 : Int32))), some (.int (M 22 (ix v2)))] (dt dk_X1_mostAlike 37 rfl) rfl rfl rfl rfl ?_
      refine e_goto 12 (dt dk_X1_mostAlike 38 rfl) (by decide) ?_
      exact e_forget [true, true, true, false] [some (.ref 21), some (.int (maxI v1 ((up2 M 24 (ix (M 22 (ix v2))) ((M 24 (ix (M 22 (ix v2)))) + (1 : Int32))) 24 (ix (M 22 (ix v2)))))), some (.int (v2 + (1 : Int32))), none] ⟨rfl, rfl⟩ (hK12 (maxI v1 ((up2 M 24 (ix (M 22 (ix v2))) ((M 24 (ix (M 22 (ix v2)))) + (1 : Int32))) 24 (ix (M 22 (ix v2))))) (v2 + (1 : Int32)) (up2 M 24 (ix (M 22 (ix v2))) ((M 24 (ix (M 22 (ix v2)))) + (1 : Int32))))
def lp_X1_mostAlike_21_12  : Nat → Int32 → Int32 → Mem → Option (Int32 × Mem)
  | 0 => fun _ _ _ => none
  | n + 1 => bd_X1_mostAlike_21_12 (lp_X1_mostAlike_21_12 n)
theorem ev_lp_X1_mostAlike_21_12   : ∀ (n : Nat), ∀ (v1 : Int32) (v2 : Int32) (M : Mem), Ev none wI RX1 cX1_mostAlike (some .int) 1 12 [some (.ref 21), some (.int v1), some (.int v2), none] [] M (lp_X1_mostAlike_21_12 n v1 v2 M)
  | 0 => fun _ _ _ => e_none
  | n + 1 => ev_bd_X1_mostAlike_21_12 (lp_X1_mostAlike_21_12 n) (ev_lp_X1_mostAlike_21_12 n)
def f_X1_mostAlike_21  (M : Mem) : Option (Int32 × Mem) :=
  ((f_J7_fill_53178_24 (0 : Int32) M)).bind fun q1 => (lp_X1_mostAlike_21_12 FU (0 : Int32) (0 : Int32) q1)
set_option maxRecDepth 20000 in
set_option maxHeartbeats 2000000 in
theorem sp_X1_mostAlike_21  (M : Mem) : SpO wI yX1_mostAlike cX1_mostAlike 4 (some .int) 1 [.ref 21] M (f_X1_mostAlike_21 M) := by
  refine sp_of (L := [some (.ref 21), none, none, none]) rfl (by decide +kernel) rfl rfl ?_
  unfold f_X1_mostAlike_21
  refine e_aload_n (dt dk_X1_mostAlike 0 rfl) rfl ?_
  refine e_getR ci_X1 (dt dk_X1_mostAlike 1 rfl) rfl (by decide) rfl fl_X1_18 ?_
  refine e_iconst (v := (0 : Int32)) (dt dk_X1_mostAlike 2 rfl) (by decide) ?_
  refine ev_call (ca_S ms_J7_fill_53178 (sp_J7_fill_53178_24 (0 : Int32) M) (dt dk_X1_mostAlike 3 rfl) ml_X1_48 rfl rfl rfl (by decide) : Ca _ _ _ _ _ _ _ _ [] _ _) (fun q1 hq1 => ?_)
  show Ev _ _ _ _ _ _ 8 [some (.ref 21), none, none, none] [] q1 _
  refine e_iconst (v := (0 : Int32)) (dt dk_X1_mostAlike 4 rfl) (by decide) ?_
  refine e_istore_n [some (.ref 21), some (.int (0 : Int32)), none, none] (dt dk_X1_mostAlike 5 rfl) rfl rfl rfl ?_
  refine e_iconst (v := (0 : Int32)) (dt dk_X1_mostAlike 6 rfl) (by decide) ?_
  refine e_istore_n [some (.ref 21), some (.int (0 : Int32)), some (.int (0 : Int32)), none] (dt dk_X1_mostAlike 7 rfl) rfl rfl rfl ?_
  exact e_forget [true, true, true, false] [some (.ref 21), some (.int (0 : Int32)), some (.int (0 : Int32)), none] ⟨rfl, rfl⟩ (ev_lp_X1_mostAlike_21_12 FU (0 : Int32) (0 : Int32) q1)
-- X1_breedAll_21 (W, depth 2)
def bd_X1_breedAll_21_2  (K2 : Int32 → Mem → Option Mem) (v1 : Int32) (M : Mem) : Option Mem :=
  (if (M 21 3) ≤ v1 then some M else if inb v1 90 then if inb v1 90 then if inb v1 90 then (K2 (v1 + (1 : Int32)) (up2 M 22 (ix v1) (f_X9_grown (M 22 (ix v1)) (M 23 (ix v1))))) else none else none else none)
set_option maxRecDepth 20000 in
set_option maxHeartbeats 2000000 in
theorem ev_bd_X1_breedAll_21_2  (K2 : Int32 → Mem → Option Mem)  (hK2 : ∀ (v1 : Int32) (M : Mem), Ev none wV RX1 cX1_breedAll none 2 2 [some (.ref 21), some (.int v1)] [] M (K2 v1 M)) (v1 : Int32) (M : Mem) : Ev none wV RX1 cX1_breedAll none 2 2 [some (.ref 21), some (.int v1)] [] M (bd_X1_breedAll_21_2 K2 v1 M) := by
  unfold bd_X1_breedAll_21_2
  refine e_iload_n (dt dk_X1_breedAll 2 rfl) rfl ?_
  refine e_aload_n (dt dk_X1_breedAll 3 rfl) rfl ?_
  refine e_getI (v := (M 21 3)) ci_X1 (dt dk_X1_breedAll 4 rfl) rfl (by decide) rfl fl_X1_32 rfl ?_
  refine e_icmp_ge 37 (dt dk_X1_breedAll 5 rfl) (by decide) (fun h1 => ?_) (fun h1 => ?_)
  · exact e_vret (dt dk_X1_breedAll 21 rfl) rfl rfl
  · refine e_aload_n (dt dk_X1_breedAll 6 rfl) rfl ?_
    refine e_getR ci_X1 (dt dk_X1_breedAll 7 rfl) rfl (by decide) rfl fl_X1_9 ?_
    refine e_iload_n (dt dk_X1_breedAll 8 rfl) rfl ?_
    refine e_aload_n (dt dk_X1_breedAll 9 rfl) rfl ?_
    refine e_getR ci_X1 (dt dk_X1_breedAll 10 rfl) rfl (by decide) rfl fl_X1_9 ?_
    refine e_iload_n (dt dk_X1_breedAll 11 rfl) rfl ?_
    refine e_if (fun h2 => ?_)
    refine e_iald' (v := (M 22 (ix v1))) (dt dk_X1_breedAll 12 rfl) rfl h2 rfl ?_
    refine e_aload_n (dt dk_X1_breedAll 13 rfl) rfl ?_
    refine e_getR ci_X1 (dt dk_X1_breedAll 14 rfl) rfl (by decide) rfl fl_X1_15 ?_
    refine e_iload_n (dt dk_X1_breedAll 15 rfl) rfl ?_
    refine e_if (fun h3 => ?_)
    refine e_iald' (v := (M 23 (ix v1))) (dt dk_X1_breedAll 16 rfl) rfl h3 rfl ?_
    refine ev_callT (ca_SN ms_X9_grown (sp_X9_grown (M 22 (ix v1)) (M 23 (ix v1)) M) (dt dk_X1_breedAll 17 rfl) mn_X1_64 rfl rfl rfl (by decide) : Ca _ _ _ _ _ _ _ _ [.int v1, .ref 22] _ _) ?_
    show Ev _ _ _ _ _ _ 30 [some (.ref 21), some (.int v1)] [.int (f_X9_grown (M 22 (ix v1)) (M 23 (ix v1))), .int v1, .ref 22] M _
    refine e_if (fun h4 => ?_)
    refine e_iast' (dt dk_X1_breedAll 18 rfl) rfl h4 ?_
    refine e_iinc [some (.ref 21), some (.int (v1 + (1 : Int32)))] (dt dk_X1_breedAll 19 rfl) rfl rfl rfl rfl ?_
    refine e_goto 2 (dt dk_X1_breedAll 20 rfl) (by decide) ?_
    exact e_forget [true, true] [some (.ref 21), some (.int (v1 + (1 : Int32)))] ⟨rfl, rfl⟩ (hK2 (v1 + (1 : Int32)) (up2 M 22 (ix v1) (f_X9_grown (M 22 (ix v1)) (M 23 (ix v1)))))
def lp_X1_breedAll_21_2  : Nat → Int32 → Mem → Option Mem
  | 0 => fun _ _ => none
  | n + 1 => bd_X1_breedAll_21_2 (lp_X1_breedAll_21_2 n)
theorem ev_lp_X1_breedAll_21_2   : ∀ (n : Nat), ∀ (v1 : Int32) (M : Mem), Ev none wV RX1 cX1_breedAll none 2 2 [some (.ref 21), some (.int v1)] [] M (lp_X1_breedAll_21_2 n v1 M)
  | 0 => fun _ _ => e_none
  | n + 1 => ev_bd_X1_breedAll_21_2 (lp_X1_breedAll_21_2 n) (ev_lp_X1_breedAll_21_2 n)
def f_X1_breedAll_21  (M : Mem) : Option Mem :=
  (lp_X1_breedAll_21_2 FU (0 : Int32) M)
set_option maxRecDepth 20000 in
set_option maxHeartbeats 2000000 in
theorem sp_X1_breedAll_21  (M : Mem) : SpO wV yX1_breedAll cX1_breedAll 2 none 2 [.ref 21] M (f_X1_breedAll_21 M) := by
  refine sp_of (L := [some (.ref 21), none]) rfl (by decide +kernel) rfl rfl ?_
  unfold f_X1_breedAll_21
  refine e_iconst (v := (0 : Int32)) (dt dk_X1_breedAll 0 rfl) (by decide) ?_
  refine e_istore_n [some (.ref 21), some (.int (0 : Int32))] (dt dk_X1_breedAll 1 rfl) rfl rfl rfl ?_
  exact e_forget [true, true] [some (.ref 21), some (.int (0 : Int32))] ⟨rfl, rfl⟩ (ev_lp_X1_breedAll_21_2 FU (0 : Int32) M)
-- X1_weigh_21_19 (W, depth 4)
def lb_X1_weigh_21_19_64 (K19 : Int32 → Mem → Option Mem) (v2 : Int32) (M : Mem) : Option Mem :=
  ((f_X1_breedAll_21 M)).bind fun q6 => (K19 (v2 + (1 : Int32)) q6)
set_option maxRecDepth 20000 in
set_option maxHeartbeats 2000000 in
theorem ev_lb_X1_weigh_21_19_64 (K19 : Int32 → Mem → Option Mem) (hK19 : ∀ (v2 : Int32) (M : Mem), Ev none wV RX1 cX1_weigh none 4 19 [some (.ref 21), none, some (.int v2), none] [] M (K19 v2 M)) (v2 : Int32) (M : Mem) : Ev none wV RX1 cX1_weigh none 4 64 [some (.ref 21), none, some (.int v2), none] [] M (lb_X1_weigh_21_19_64 K19 v2 M) := by
  unfold lb_X1_weigh_21_19_64
  refine e_aload_n (dt dk_X1_weigh 34 rfl) rfl ?_
  refine ev_call (ca_V (k := 21) mv_X1_breedAll (sp_X1_breedAll_21 M) (dt dk_X1_weigh 35 rfl) ml_X1_39 rfl rfl rfl rfl rfl (by decide) : Ca _ _ _ _ _ _ _ _ [] _ _) (fun q6 hq6 => ?_)
  show Ev _ _ _ _ _ _ 68 [some (.ref 21), none, some (.int v2), none] [] q6 _
  refine e_iinc [some (.ref 21), none, some (.int (v2 + (1 : Int32))), none] (dt dk_X1_weigh 36 rfl) rfl rfl rfl rfl ?_
  refine e_goto 19 (dt dk_X1_weigh 37 rfl) (by decide) ?_
  exact e_forget [true, false, true, false] [some (.ref 21), none, some (.int (v2 + (1 : Int32))), none] ⟨rfl, rfl⟩ (hK19 (v2 + (1 : Int32)) q6)
def lb_X1_weigh_21_19_54 (K19 : Int32 → Mem → Option Mem) (v2 : Int32) (v3 : Int32) (M : Mem) : Option Mem :=
  (lb_X1_weigh_21_19_64 K19 v2 (up2 (up2 M 21 4 v2) 21 5 v3))
set_option maxRecDepth 20000 in
set_option maxHeartbeats 2000000 in
theorem ev_lb_X1_weigh_21_19_54 (K19 : Int32 → Mem → Option Mem) (hK19 : ∀ (v2 : Int32) (M : Mem), Ev none wV RX1 cX1_weigh none 4 19 [some (.ref 21), none, some (.int v2), none] [] M (K19 v2 M)) (v2 : Int32) (v3 : Int32) (M : Mem) : Ev none wV RX1 cX1_weigh none 4 54 [some (.ref 21), none, some (.int v2), some (.int v3)] [] M (lb_X1_weigh_21_19_54 K19 v2 v3 M) := by
  unfold lb_X1_weigh_21_19_54
  refine e_aload_n (dt dk_X1_weigh 28 rfl) rfl ?_
  refine e_iload_n (dt dk_X1_weigh 29 rfl) rfl ?_
  refine e_putI (ty := .int) ci_X1 (dt dk_X1_weigh 30 rfl) rfl (by decide) rfl fl_X1_25 rfl (by decide +kernel) rfl rfl ?_
  refine e_aload_n (dt dk_X1_weigh 31 rfl) rfl ?_
  refine e_iload_n (dt dk_X1_weigh 32 rfl) rfl ?_
  refine e_putI (ty := .int) ci_X1 (dt dk_X1_weigh 33 rfl) rfl (by decide) rfl fl_X1_29 rfl (by decide +kernel) rfl rfl ?_
  exact e_forget [true, false, true, false] [some (.ref 21), none, some (.int v2), none] ⟨rfl, rfl⟩ (ev_lb_X1_weigh_21_19_64 K19 hK19 v2 (up2 (up2 M 21 4 v2) 21 5 v3))
def bd_X1_weigh_21_19_19  (K19 : Int32 → Mem → Option Mem) (v2 : Int32) (M : Mem) : Option Mem :=
  (if (40 : Int32) < v2 then some M else (if (M 21 3) ≤ 0 then some M else ((f_X1_mostAlike_21 M)).bind fun q4 => (if (q4.2 21 4) = (-6 : Int32) then (lb_X1_weigh_21_19_54 K19 v2 q4.1 q4.2) else (if (q4.2 21 5) ≤ q4.1 then (lb_X1_weigh_21_19_64 K19 v2 q4.2) else (lb_X1_weigh_21_19_54 K19 v2 q4.1 q4.2)))))
set_option maxRecDepth 20000 in
set_option maxHeartbeats 2000000 in
theorem ev_bd_X1_weigh_21_19_19  (K19 : Int32 → Mem → Option Mem)  (hK19 : ∀ (v2 : Int32) (M : Mem), Ev none wV RX1 cX1_weigh none 4 19 [some (.ref 21), none, some (.int v2), none] [] M (K19 v2 M)) (v2 : Int32) (M : Mem) : Ev none wV RX1 cX1_weigh none 4 19 [some (.ref 21), none, some (.int v2), none] [] M (bd_X1_weigh_21_19_19 K19 v2 M) := by
  unfold bd_X1_weigh_21_19_19
  refine e_iload_n (dt dk_X1_weigh 11 rfl) rfl ?_
  refine e_bipush (v := (40 : Int32)) (dt dk_X1_weigh 12 rfl) (by decide) ?_
  refine e_icmp_gt 74 (dt dk_X1_weigh 13 rfl) (by decide) (fun h2 => ?_) (fun h2 => ?_)
  · exact e_vret (dt dk_X1_weigh 38 rfl) rfl rfl
  · refine e_aload_n (dt dk_X1_weigh 14 rfl) rfl ?_
    refine e_getI (v := (M 21 3)) ci_X1 (dt dk_X1_weigh 15 rfl) rfl (by decide) rfl fl_X1_32 rfl ?_
    refine e_if_le 74 (dt dk_X1_weigh 16 rfl) (by decide) (fun h3 => ?_) (fun h3 => ?_)
    · exact e_vret (dt dk_X1_weigh 38 rfl) rfl rfl
    · refine e_aload_n (dt dk_X1_weigh 17 rfl) rfl ?_
      refine ev_call (ca_V (k := 21) mv_X1_mostAlike (sp_X1_mostAlike_21 M) (dt dk_X1_weigh 18 rfl) ml_X1_35 rfl rfl rfl rfl rfl (by decide) : Ca _ _ _ _ _ _ _ _ [] _ _) (fun q4 hq4 => ?_)
      show Ev _ _ _ _ _ _ 36 [some (.ref 21), none, some (.int v2), none] [.int q4.1] q4.2 _
      refine e_istore_n [some (.ref 21), none, some (.int v2), some (.int q4.1)] (dt dk_X1_weigh 19 rfl) rfl rfl rfl ?_
      refine e_aload_n (dt dk_X1_weigh 20 rfl) rfl ?_
      refine e_getI (v := (q4.2 21 4)) ci_X1 (dt dk_X1_weigh 21 rfl) rfl (by decide) rfl fl_X1_25 rfl ?_
      refine e_bipush (v := (-6 : Int32)) (dt dk_X1_weigh 22 rfl) (by decide) ?_
      refine e_icmp_eq 54 (dt dk_X1_weigh 23 rfl) (by decide) (fun h5 => ?_) (fun h5 => ?_)
      · exact e_forget [true, false, true, true] [some (.ref 21), none, some (.int v2), some (.int q4.1)] ⟨rfl, rfl⟩ (ev_lb_X1_weigh_21_19_54 K19 hK19 v2 q4.1 q4.2)
      · refine e_iload_n (dt dk_X1_weigh 24 rfl) rfl ?_
        refine e_aload_n (dt dk_X1_weigh 25 rfl) rfl ?_
        refine e_getI (v := (q4.2 21 5)) ci_X1 (dt dk_X1_weigh 26 rfl) rfl (by decide) rfl fl_X1_29 rfl ?_
        refine e_icmp_ge 64 (dt dk_X1_weigh 27 rfl) (by decide) (fun h7 => ?_) (fun h7 => ?_)
        · exact e_forget [true, false, true, false] [some (.ref 21), none, some (.int v2), none] ⟨rfl, rfl⟩ (ev_lb_X1_weigh_21_19_64 K19 hK19 v2 q4.2)
        · exact e_forget [true, false, true, true] [some (.ref 21), none, some (.int v2), some (.int q4.1)] ⟨rfl, rfl⟩ (ev_lb_X1_weigh_21_19_54 K19 hK19 v2 q4.1 q4.2)
def lp_X1_weigh_21_19_19  : Nat → Int32 → Mem → Option Mem
  | 0 => fun _ _ => none
  | n + 1 => bd_X1_weigh_21_19_19 (lp_X1_weigh_21_19_19 n)
theorem ev_lp_X1_weigh_21_19_19   : ∀ (n : Nat), ∀ (v2 : Int32) (M : Mem), Ev none wV RX1 cX1_weigh none 4 19 [some (.ref 21), none, some (.int v2), none] [] M (lp_X1_weigh_21_19_19 n v2 M)
  | 0 => fun _ _ => e_none
  | n + 1 => ev_bd_X1_weigh_21_19_19 (lp_X1_weigh_21_19_19 n) (ev_lp_X1_weigh_21_19_19 n)
def f_X1_weigh_21_19  (M : Mem) : Option Mem :=
  ((f_X1_gather_21_19 M)).bind fun q1 => (lp_X1_weigh_21_19_19 FU (0 : Int32) (up2 (up2 q1 21 4 (-6 : Int32)) 21 5 (-6 : Int32)))
set_option maxRecDepth 20000 in
set_option maxHeartbeats 2000000 in
theorem sp_X1_weigh_21_19  (M : Mem) : SpO wV yX1_weigh cX1_weigh 4 none 4 [.ref 21, .ref 19] M (f_X1_weigh_21_19 M) := by
  refine sp_of (L := [some (.ref 21), some (.ref 19), none, none]) rfl (by decide +kernel) rfl rfl ?_
  unfold f_X1_weigh_21_19
  refine e_aload_n (dt dk_X1_weigh 0 rfl) rfl ?_
  refine e_aload_n (dt dk_X1_weigh 1 rfl) rfl ?_
  refine ev_call (ca_V (k := 21) mv_X1_gather (sp_X1_gather_21_19 M) (dt dk_X1_weigh 2 rfl) ml_X1_21 rfl rfl rfl rfl rfl (by decide) : Ca _ _ _ _ _ _ _ _ [] _ _) (fun q1 hq1 => ?_)
  show Ev _ _ _ _ _ _ 5 [some (.ref 21), some (.ref 19), none, none] [] q1 _
  refine e_aload_n (dt dk_X1_weigh 3 rfl) rfl ?_
  refine e_bipush (v := (-6 : Int32)) (dt dk_X1_weigh 4 rfl) (by decide) ?_
  refine e_putI (ty := .int) ci_X1 (dt dk_X1_weigh 5 rfl) rfl (by decide) rfl fl_X1_25 rfl (by decide +kernel) rfl rfl ?_
  refine e_aload_n (dt dk_X1_weigh 6 rfl) rfl ?_
  refine e_bipush (v := (-6 : Int32)) (dt dk_X1_weigh 7 rfl) (by decide) ?_
  refine e_putI (ty := .int) ci_X1 (dt dk_X1_weigh 8 rfl) rfl (by decide) rfl fl_X1_29 rfl (by decide +kernel) rfl rfl ?_
  refine e_iconst (v := (0 : Int32)) (dt dk_X1_weigh 9 rfl) (by decide) ?_
  refine e_istore_n [some (.ref 21), some (.ref 19), some (.int (0 : Int32)), none] (dt dk_X1_weigh 10 rfl) rfl rfl rfl ?_
  exact e_forget [true, false, true, false] [some (.ref 21), none, some (.int (0 : Int32)), none] ⟨rfl, rfl⟩ (ev_lp_X1_weigh_21_19_19 FU (0 : Int32) (up2 (up2 q1 21 4 (-6 : Int32)) 21 5 (-6 : Int32)))
-- X3_shutIn_28 (W, depth 0)
def bd_X3_shutIn_28_19 (K2 : Int32 → Mem → Option Mem) (K19 : Int32 → Int32 → Mem → Option Mem) (v1 : Int32) (v2 : Int32) (M : Mem) : Option Mem :=
  (if (8 : Int32) ≤ v2 then (K2 (v1 + (1 : Int32)) M) else if inb v2 8 then if inb v1 8 then (if ((M 29 (ix v2)) &&& ((M 30 (ix v1)) ^^^ (-1 : Int32))) = 0 then if inb v1 8 then if inb v1 8 then (K19 v1 (v2 + (1 : Int32)) (up2 M 31 (ix v1) ((M 31 (ix v1)) ||| ((1 : Int32) <<< (v2 &&& 31))))) else none else none else (K19 v1 (v2 + (1 : Int32)) M)) else none else none)
set_option maxRecDepth 20000 in
set_option maxHeartbeats 2000000 in
theorem ev_bd_X3_shutIn_28_19 (K2 : Int32 → Mem → Option Mem) (K19 : Int32 → Int32 → Mem → Option Mem) (hK2 : ∀ (v1 : Int32) (M : Mem), Ev none wV RX3 cX3_shutIn none 0 2 [some (.ref 28), some (.int v1), none] [] M (K2 v1 M)) (hK19 : ∀ (v1 : Int32) (v2 : Int32) (M : Mem), Ev none wV RX3 cX3_shutIn none 0 19 [some (.ref 28), some (.int v1), some (.int v2)] [] M (K19 v1 v2 M)) (v1 : Int32) (v2 : Int32) (M : Mem) : Ev none wV RX3 cX3_shutIn none 0 19 [some (.ref 28), some (.int v1), some (.int v2)] [] M (bd_X3_shutIn_28_19 K2 K19 v1 v2 M) := by
  unfold bd_X3_shutIn_28_19
  refine e_iload_n (dt dk_X3_shutIn 14 rfl) rfl ?_
  refine e_bipush (v := (8 : Int32)) (dt dk_X3_shutIn 15 rfl) (by decide) ?_
  refine e_icmp_ge 61 (dt dk_X3_shutIn 16 rfl) (by decide) (fun h3 => ?_) (fun h3 => ?_)
  · refine e_iinc [some (.ref 28), some (.int (v1 + (1 : Int32))), some (.int v2)] (dt dk_X3_shutIn 41 rfl) rfl rfl rfl rfl ?_
    refine e_goto 2 (dt dk_X3_shutIn 42 rfl) (by decide) ?_
    exact e_forget [true, true, false] [some (.ref 28), some (.int (v1 + (1 : Int32))), none] ⟨rfl, rfl⟩ (hK2 (v1 + (1 : Int32)) M)
  · refine e_aload_n (dt dk_X3_shutIn 17 rfl) rfl ?_
    refine e_getR ci_X3 (dt dk_X3_shutIn 18 rfl) rfl (by decide) rfl fl_X3_9 ?_
    refine e_iload_n (dt dk_X3_shutIn 19 rfl) rfl ?_
    refine e_if (fun h4 => ?_)
    refine e_iald' (v := (M 29 (ix v2))) (dt dk_X3_shutIn 20 rfl) rfl h4 rfl ?_
    refine e_aload_n (dt dk_X3_shutIn 21 rfl) rfl ?_
    refine e_getR ci_X3 (dt dk_X3_shutIn 22 rfl) rfl (by decide) rfl fl_X3_15 ?_
    refine e_iload_n (dt dk_X3_shutIn 23 rfl) rfl ?_
    refine e_if (fun h5 => ?_)
    refine e_iald' (v := (M 30 (ix v1))) (dt dk_X3_shutIn 24 rfl) rfl h5 rfl ?_
    refine e_iconst (v := (-1 : Int32)) (dt dk_X3_shutIn 25 rfl) (by decide) ?_
    refine e_ixor (dt dk_X3_shutIn 26 rfl) ?_
    refine e_iand (dt dk_X3_shutIn 27 rfl) ?_
    refine e_if_ne 55 (dt dk_X3_shutIn 28 rfl) (by decide) (fun h6 => ?_) (fun h6 => ?_)
    · refine e_aload_n (dt dk_X3_shutIn 29 rfl) rfl ?_
      refine e_getR ci_X3 (dt dk_X3_shutIn 30 rfl) rfl (by decide) rfl fl_X3_18 ?_
      refine e_iload_n (dt dk_X3_shutIn 31 rfl) rfl ?_
      refine e_dup2 (dt dk_X3_shutIn 32 rfl) rfl rfl ?_
      refine e_if (fun h7 => ?_)
      refine e_iald' (v := (M 31 (ix v1))) (dt dk_X3_shutIn 33 rfl) rfl h7 rfl ?_
      refine e_iconst (v := (1 : Int32)) (dt dk_X3_shutIn 34 rfl) (by decide) ?_
      refine e_iload_n (dt dk_X3_shutIn 35 rfl) rfl ?_
      refine e_ishl (dt dk_X3_shutIn 36 rfl) ?_
      refine e_ior (dt dk_X3_shutIn 37 rfl) ?_
      refine e_if (fun h8 => ?_)
      refine e_iast' (dt dk_X3_shutIn 38 rfl) rfl h8 ?_
      refine e_iinc [some (.ref 28), some (.int v1), some (.int (v2 + (1 : Int32)))] (dt dk_X3_shutIn 39 rfl) rfl rfl rfl rfl ?_
      refine e_goto 19 (dt dk_X3_shutIn 40 rfl) (by decide) ?_
      exact e_forget [true, true, true] [some (.ref 28), some (.int v1), some (.int (v2 + (1 : Int32)))] ⟨rfl, rfl⟩ (hK19 v1 (v2 + (1 : Int32)) (up2 M 31 (ix v1) ((M 31 (ix v1)) ||| ((1 : Int32) <<< (v2 &&& 31)))))
    · refine e_iinc [some (.ref 28), some (.int v1), some (.int (v2 + (1 : Int32)))] (dt dk_X3_shutIn 39 rfl) rfl rfl rfl rfl ?_
      refine e_goto 19 (dt dk_X3_shutIn 40 rfl) (by decide) ?_
      exact e_forget [true, true, true] [some (.ref 28), some (.int v1), some (.int (v2 + (1 : Int32)))] ⟨rfl, rfl⟩ (hK19 v1 (v2 + (1 : Int32)) M)
def lp_X3_shutIn_28_19 (K2 : Int32 → Mem → Option Mem) : Nat → Int32 → Int32 → Mem → Option Mem
  | 0 => fun _ _ _ => none
  | n + 1 => bd_X3_shutIn_28_19 K2 (lp_X3_shutIn_28_19 K2 n)
theorem ev_lp_X3_shutIn_28_19 (K2 : Int32 → Mem → Option Mem) (hK2 : ∀ (v1 : Int32) (M : Mem), Ev none wV RX3 cX3_shutIn none 0 2 [some (.ref 28), some (.int v1), none] [] M (K2 v1 M)) : ∀ (n : Nat), ∀ (v1 : Int32) (v2 : Int32) (M : Mem), Ev none wV RX3 cX3_shutIn none 0 19 [some (.ref 28), some (.int v1), some (.int v2)] [] M (lp_X3_shutIn_28_19 K2 n v1 v2 M)
  | 0 => fun _ _ _ => e_none
  | n + 1 => ev_bd_X3_shutIn_28_19 K2 (lp_X3_shutIn_28_19 K2 n) hK2 (ev_lp_X3_shutIn_28_19 K2 hK2 n)
def bd_X3_shutIn_28_2  (K2 : Int32 → Mem → Option Mem) (v1 : Int32) (M : Mem) : Option Mem :=
  (if (8 : Int32) ≤ v1 then some M else if inb v1 8 then (lp_X3_shutIn_28_19 K2 FU v1 (0 : Int32) (up2 M 31 (ix v1) ((1 : Int32) <<< (v1 &&& 31)))) else none)
set_option maxRecDepth 20000 in
set_option maxHeartbeats 2000000 in
theorem ev_bd_X3_shutIn_28_2  (K2 : Int32 → Mem → Option Mem)  (hK2 : ∀ (v1 : Int32) (M : Mem), Ev none wV RX3 cX3_shutIn none 0 2 [some (.ref 28), some (.int v1), none] [] M (K2 v1 M)) (v1 : Int32) (M : Mem) : Ev none wV RX3 cX3_shutIn none 0 2 [some (.ref 28), some (.int v1), none] [] M (bd_X3_shutIn_28_2 K2 v1 M) := by
  unfold bd_X3_shutIn_28_2
  refine e_iload_n (dt dk_X3_shutIn 2 rfl) rfl ?_
  refine e_bipush (v := (8 : Int32)) (dt dk_X3_shutIn 3 rfl) (by decide) ?_
  refine e_icmp_ge 67 (dt dk_X3_shutIn 4 rfl) (by decide) (fun h1 => ?_) (fun h1 => ?_)
  · exact e_vret (dt dk_X3_shutIn 43 rfl) rfl rfl
  · refine e_aload_n (dt dk_X3_shutIn 5 rfl) rfl ?_
    refine e_getR ci_X3 (dt dk_X3_shutIn 6 rfl) rfl (by decide) rfl fl_X3_18 ?_
    refine e_iload_n (dt dk_X3_shutIn 7 rfl) rfl ?_
    refine e_iconst (v := (1 : Int32)) (dt dk_X3_shutIn 8 rfl) (by decide) ?_
    refine e_iload_n (dt dk_X3_shutIn 9 rfl) rfl ?_
    refine e_ishl (dt dk_X3_shutIn 10 rfl) ?_
    refine e_if (fun h2 => ?_)
    refine e_iast' (dt dk_X3_shutIn 11 rfl) rfl h2 ?_
    refine e_iconst (v := (0 : Int32)) (dt dk_X3_shutIn 12 rfl) (by decide) ?_
    refine e_istore_n [some (.ref 28), some (.int v1), some (.int (0 : Int32))] (dt dk_X3_shutIn 13 rfl) rfl rfl rfl ?_
    exact e_forget [true, true, true] [some (.ref 28), some (.int v1), some (.int (0 : Int32))] ⟨rfl, rfl⟩ (ev_lp_X3_shutIn_28_19 K2 hK2 FU v1 (0 : Int32) (up2 M 31 (ix v1) ((1 : Int32) <<< (v1 &&& 31))))
def lp_X3_shutIn_28_2  : Nat → Int32 → Mem → Option Mem
  | 0 => fun _ _ => none
  | n + 1 => bd_X3_shutIn_28_2 (lp_X3_shutIn_28_2 n)
theorem ev_lp_X3_shutIn_28_2   : ∀ (n : Nat), ∀ (v1 : Int32) (M : Mem), Ev none wV RX3 cX3_shutIn none 0 2 [some (.ref 28), some (.int v1), none] [] M (lp_X3_shutIn_28_2 n v1 M)
  | 0 => fun _ _ => e_none
  | n + 1 => ev_bd_X3_shutIn_28_2 (lp_X3_shutIn_28_2 n) (ev_lp_X3_shutIn_28_2 n)
def f_X3_shutIn_28  (M : Mem) : Option Mem :=
  (lp_X3_shutIn_28_2 FU (0 : Int32) M)
set_option maxRecDepth 20000 in
set_option maxHeartbeats 2000000 in
theorem sp_X3_shutIn_28  (M : Mem) : SpO wV yX3_shutIn cX3_shutIn 3 none 0 [.ref 28] M (f_X3_shutIn_28 M) := by
  refine sp_of (L := [some (.ref 28), none, none]) rfl (by decide +kernel) rfl rfl ?_
  unfold f_X3_shutIn_28
  refine e_iconst (v := (0 : Int32)) (dt dk_X3_shutIn 0 rfl) (by decide) ?_
  refine e_istore_n [some (.ref 28), some (.int (0 : Int32)), none] (dt dk_X3_shutIn 1 rfl) rfl rfl rfl ?_
  exact e_forget [true, true, false] [some (.ref 28), some (.int (0 : Int32)), none] ⟨rfl, rfl⟩ (ev_lp_X3_shutIn_28_2 FU (0 : Int32) M)
-- X3_firstGoing_28 (R, depth 0)
def bd_X3_firstGoing_28_2 (M : Mem)  (K2 : Int32 → Int32 → Int32 → Option Int32) (v1 : Int32) (v2 : Int32) (v3 : Int32) : Option Int32 :=
  (if (8 : Int32) ≤ v3 then some (-6 : Int32) else if inb v1 8 then (if (((M 29 (ix v1)) >>> (v3 &&& 31)) &&& (1 : Int32)) = (1 : Int32) then if inb v3 8 then (if (((M 31 (ix v3)) >>> (v2 &&& 31)) &&& (1 : Int32)) = (1 : Int32) then some v3 else (K2 v1 v2 (v3 + (1 : Int32)))) else none else (K2 v1 v2 (v3 + (1 : Int32)))) else none)
set_option maxRecDepth 20000 in
set_option maxHeartbeats 2000000 in
theorem ev_bd_X3_firstGoing_28_2 (M : Mem)  (K2 : Int32 → Int32 → Int32 → Option Int32)  (hK2 : ∀ (v1 : Int32) (v2 : Int32) (v3 : Int32), Ev none (wR M) RX3 cX3_firstGoing (some .int) 0 2 [some (.ref 28), some (.int v1), some (.int v2), some (.int v3)] [] M (K2 v1 v2 v3)) (v1 : Int32) (v2 : Int32) (v3 : Int32) : Ev none (wR M) RX3 cX3_firstGoing (some .int) 0 2 [some (.ref 28), some (.int v1), some (.int v2), some (.int v3)] [] M (bd_X3_firstGoing_28_2 M K2 v1 v2 v3) := by
  unfold bd_X3_firstGoing_28_2
  refine e_iload_n (dt dk_X3_firstGoing 2 rfl) rfl ?_
  refine e_bipush (v := (8 : Int32)) (dt dk_X3_firstGoing 3 rfl) (by decide) ?_
  refine e_icmp_ge 44 (dt dk_X3_firstGoing 4 rfl) (by decide) (fun h1 => ?_) (fun h1 => ?_)
  · refine e_bipush (v := (-6 : Int32)) (dt dk_X3_firstGoing 29 rfl) (by decide) ?_
    exact e_iret (dt dk_X3_firstGoing 30 rfl) rfl rfl rfl
  · refine e_aload_n (dt dk_X3_firstGoing 5 rfl) rfl ?_
    refine e_getR ci_X3 (dt dk_X3_firstGoing 6 rfl) rfl (by decide) rfl fl_X3_9 ?_
    refine e_iload_n (dt dk_X3_firstGoing 7 rfl) rfl ?_
    refine e_if (fun h2 => ?_)
    refine e_iald' (v := (M 29 (ix v1))) (dt dk_X3_firstGoing 8 rfl) rfl h2 rfl ?_
    refine e_iload_n (dt dk_X3_firstGoing 9 rfl) rfl ?_
    refine e_ishr (dt dk_X3_firstGoing 10 rfl) ?_
    refine e_iconst (v := (1 : Int32)) (dt dk_X3_firstGoing 11 rfl) (by decide) ?_
    refine e_iand (dt dk_X3_firstGoing 12 rfl) ?_
    refine e_iconst (v := (1 : Int32)) (dt dk_X3_firstGoing 13 rfl) (by decide) ?_
    refine e_icmp_ne 38 (dt dk_X3_firstGoing 14 rfl) (by decide) (fun h3 => ?_) (fun h3 => ?_)
    · refine e_aload_n (dt dk_X3_firstGoing 15 rfl) rfl ?_
      refine e_getR ci_X3 (dt dk_X3_firstGoing 16 rfl) rfl (by decide) rfl fl_X3_18 ?_
      refine e_iload_n (dt dk_X3_firstGoing 17 rfl) rfl ?_
      refine e_if (fun h4 => ?_)
      refine e_iald' (v := (M 31 (ix v3))) (dt dk_X3_firstGoing 18 rfl) rfl h4 rfl ?_
      refine e_iload_n (dt dk_X3_firstGoing 19 rfl) rfl ?_
      refine e_ishr (dt dk_X3_firstGoing 20 rfl) ?_
      refine e_iconst (v := (1 : Int32)) (dt dk_X3_firstGoing 21 rfl) (by decide) ?_
      refine e_iand (dt dk_X3_firstGoing 22 rfl) ?_
      refine e_iconst (v := (1 : Int32)) (dt dk_X3_firstGoing 23 rfl) (by decide) ?_
      refine e_icmp_ne 38 (dt dk_X3_firstGoing 24 rfl) (by decide) (fun h5 => ?_) (fun h5 => ?_)
      · refine e_iload_n (dt dk_X3_firstGoing 25 rfl) rfl ?_
        exact e_iret (dt dk_X3_firstGoing 26 rfl) rfl rfl rfl
      · refine e_iinc [some (.ref 28), some (.int v1), some (.int v2), some (.int (v3 + (1 : Int32)))] (dt dk_X3_firstGoing 27 rfl) rfl rfl rfl rfl ?_
        refine e_goto 2 (dt dk_X3_firstGoing 28 rfl) (by decide) ?_
        exact e_forget [true, true, true, true] [some (.ref 28), some (.int v1), some (.int v2), some (.int (v3 + (1 : Int32)))] ⟨rfl, rfl⟩ (hK2 v1 v2 (v3 + (1 : Int32)))
    · refine e_iinc [some (.ref 28), some (.int v1), some (.int v2), some (.int (v3 + (1 : Int32)))] (dt dk_X3_firstGoing 27 rfl) rfl rfl rfl rfl ?_
      refine e_goto 2 (dt dk_X3_firstGoing 28 rfl) (by decide) ?_
      exact e_forget [true, true, true, true] [some (.ref 28), some (.int v1), some (.int v2), some (.int (v3 + (1 : Int32)))] ⟨rfl, rfl⟩ (hK2 v1 v2 (v3 + (1 : Int32)))
def lp_X3_firstGoing_28_2 (M : Mem)  : Nat → Int32 → Int32 → Int32 → Option Int32
  | 0 => fun _ _ _ => none
  | n + 1 => bd_X3_firstGoing_28_2 M (lp_X3_firstGoing_28_2 M n)
theorem ev_lp_X3_firstGoing_28_2 (M : Mem)   : ∀ (n : Nat), ∀ (v1 : Int32) (v2 : Int32) (v3 : Int32), Ev none (wR M) RX3 cX3_firstGoing (some .int) 0 2 [some (.ref 28), some (.int v1), some (.int v2), some (.int v3)] [] M (lp_X3_firstGoing_28_2 M n v1 v2 v3)
  | 0 => fun _ _ _ => e_none
  | n + 1 => ev_bd_X3_firstGoing_28_2 M (lp_X3_firstGoing_28_2 M n) (ev_lp_X3_firstGoing_28_2 M n)
def f_X3_firstGoing_28 (v1 : Int32) (v2 : Int32) (M : Mem) : Option Int32 :=
  (lp_X3_firstGoing_28_2 M FU v1 v2 (0 : Int32))
set_option maxRecDepth 20000 in
set_option maxHeartbeats 2000000 in
theorem sp_X3_firstGoing_28 (v1 : Int32) (v2 : Int32) (M : Mem) : SpO (wR M) yX3_firstGoing cX3_firstGoing 4 (some .int) 0 [.ref 28, .int v1, .int v2] M (f_X3_firstGoing_28 v1 v2 M) := by
  refine sp_of (L := [some (.ref 28), some (.int v1), some (.int v2), none]) rfl (by decide +kernel) rfl rfl ?_
  unfold f_X3_firstGoing_28
  refine e_iconst (v := (0 : Int32)) (dt dk_X3_firstGoing 0 rfl) (by decide) ?_
  refine e_istore_n [some (.ref 28), some (.int v1), some (.int v2), some (.int (0 : Int32))] (dt dk_X3_firstGoing 1 rfl) rfl rfl rfl ?_
  exact e_forget [true, true, true, true] [some (.ref 28), some (.int v1), some (.int v2), some (.int (0 : Int32))] ⟨rfl, rfl⟩ (ev_lp_X3_firstGoing_28_2 M FU v1 v2 (0 : Int32))
-- X3_widen_28 (W, depth 0)
def lb_X3_widen_28_74 (K4 : Int32 → Int32 → Mem → Option (Int32 × Mem)) (v2 : Int32) (v3 : Int32) (s0 : Int32) (s1 : Int32) (M : Mem) : Option (Int32 × Mem) :=
  if inb v2 8 then (K4 (s1 ||| s0) (v2 + (1 : Int32)) (up2 M 30 (ix v2) v3)) else none
set_option maxRecDepth 20000 in
set_option maxHeartbeats 2000000 in
theorem ev_lb_X3_widen_28_74 (K4 : Int32 → Int32 → Mem → Option (Int32 × Mem)) (hK4 : ∀ (v1 : Int32) (v2 : Int32) (M : Mem), Ev none wI RX3 cX3_widen (some .boolean) 0 4 [some (.ref 28), some (.int v1), some (.int v2), none, none] [] M (K4 v1 v2 M)) (v2 : Int32) (v3 : Int32) (s0 : Int32) (s1 : Int32) (M : Mem) : Ev none wI RX3 cX3_widen (some .boolean) 0 74 [some (.ref 28), none, some (.int v2), some (.int v3), none] [.int s0, .int s1] M (lb_X3_widen_28_74 K4 v2 v3 s0 s1 M) := by
  unfold lb_X3_widen_28_74
  refine e_ior (dt dk_X3_widen 46 rfl) ?_
  refine e_istore_n [some (.ref 28), some (.int (s1 ||| s0)), some (.int v2), some (.int v3), none] (dt dk_X3_widen 47 rfl) rfl rfl rfl ?_
  refine e_aload_n (dt dk_X3_widen 48 rfl) rfl ?_
  refine e_getR ci_X3 (dt dk_X3_widen 49 rfl) rfl (by decide) rfl fl_X3_15 ?_
  refine e_iload_n (dt dk_X3_widen 50 rfl) rfl ?_
  refine e_iload_n (dt dk_X3_widen 51 rfl) rfl ?_
  refine e_if (fun h6 => ?_)
  refine e_iast' (dt dk_X3_widen 52 rfl) rfl h6 ?_
  refine e_iinc [some (.ref 28), some (.int (s1 ||| s0)), some (.int (v2 + (1 : Int32))), some (.int v3), none] (dt dk_X3_widen 53 rfl) rfl rfl rfl rfl ?_
  refine e_goto 4 (dt dk_X3_widen 54 rfl) (by decide) ?_
  exact e_forget [true, true, true, false, false] [some (.ref 28), some (.int (s1 ||| s0)), some (.int (v2 + (1 : Int32))), none, none] ⟨rfl, rfl⟩ (hK4 (s1 ||| s0) (v2 + (1 : Int32)) (up2 M 30 (ix v2) v3))
def bd_X3_widen_28_20 (K4 : Int32 → Int32 → Mem → Option (Int32 × Mem)) (K20 : Int32 → Int32 → Int32 → Int32 → Mem → Option (Int32 × Mem)) (v1 : Int32) (v2 : Int32) (v3 : Int32) (v4 : Int32) (M : Mem) : Option (Int32 × Mem) :=
  (if (8 : Int32) ≤ v4 then if inb v2 8 then (if v3 = (M 30 (ix v2)) then (lb_X3_widen_28_74 K4 v2 v3 (0 : Int32) v1 M) else (lb_X3_widen_28_74 K4 v2 v3 (1 : Int32) v1 M)) else none else if inb v2 8 then (if (((M 29 (ix v2)) >>> (v4 &&& 31)) &&& (1 : Int32)) = (1 : Int32) then if inb v4 8 then (K20 v1 v2 (v3 ||| (M 31 (ix v4))) (v4 + (1 : Int32)) M) else none else (K20 v1 v2 v3 (v4 + (1 : Int32)) M)) else none)
set_option maxRecDepth 20000 in
set_option maxHeartbeats 2000000 in
theorem ev_bd_X3_widen_28_20 (K4 : Int32 → Int32 → Mem → Option (Int32 × Mem)) (K20 : Int32 → Int32 → Int32 → Int32 → Mem → Option (Int32 × Mem)) (hK4 : ∀ (v1 : Int32) (v2 : Int32) (M : Mem), Ev none wI RX3 cX3_widen (some .boolean) 0 4 [some (.ref 28), some (.int v1), some (.int v2), none, none] [] M (K4 v1 v2 M)) (hK20 : ∀ (v1 : Int32) (v2 : Int32) (v3 : Int32) (v4 : Int32) (M : Mem), Ev none wI RX3 cX3_widen (some .boolean) 0 20 [some (.ref 28), some (.int v1), some (.int v2), some (.int v3), some (.int v4)] [] M (K20 v1 v2 v3 v4 M)) (v1 : Int32) (v2 : Int32) (v3 : Int32) (v4 : Int32) (M : Mem) : Ev none wI RX3 cX3_widen (some .boolean) 0 20 [some (.ref 28), some (.int v1), some (.int v2), some (.int v3), some (.int v4)] [] M (bd_X3_widen_28_20 K4 K20 v1 v2 v3 v4 M) := by
  unfold bd_X3_widen_28_20
  refine e_iload (dt dk_X3_widen 14 rfl) rfl ?_
  refine e_bipush (v := (8 : Int32)) (dt dk_X3_widen 15 rfl) (by decide) ?_
  refine e_icmp_ge 58 (dt dk_X3_widen 16 rfl) (by decide) (fun h3 => ?_) (fun h3 => ?_)
  · refine e_iload_n (dt dk_X3_widen 36 rfl) rfl ?_
    refine e_iload_n (dt dk_X3_widen 37 rfl) rfl ?_
    refine e_aload_n (dt dk_X3_widen 38 rfl) rfl ?_
    refine e_getR ci_X3 (dt dk_X3_widen 39 rfl) rfl (by decide) rfl fl_X3_15 ?_
    refine e_iload_n (dt dk_X3_widen 40 rfl) rfl ?_
    refine e_if (fun h4 => ?_)
    refine e_iald' (v := (M 30 (ix v2))) (dt dk_X3_widen 41 rfl) rfl h4 rfl ?_
    refine e_icmp_eq 73 (dt dk_X3_widen 42 rfl) (by decide) (fun h5 => ?_) (fun h5 => ?_)
    · refine e_iconst (v := (0 : Int32)) (dt dk_X3_widen 45 rfl) (by decide) ?_
      exact e_forget [true, false, true, true, false] [some (.ref 28), none, some (.int v2), some (.int v3), none] ⟨rfl, rfl⟩ (ev_lb_X3_widen_28_74 K4 hK4 v2 v3 (0 : Int32) v1 M)
    · refine e_iconst (v := (1 : Int32)) (dt dk_X3_widen 43 rfl) (by decide) ?_
      refine e_goto 74 (dt dk_X3_widen 44 rfl) (by decide) ?_
      exact e_forget [true, false, true, true, false] [some (.ref 28), none, some (.int v2), some (.int v3), none] ⟨rfl, rfl⟩ (ev_lb_X3_widen_28_74 K4 hK4 v2 v3 (1 : Int32) v1 M)
  · refine e_aload_n (dt dk_X3_widen 17 rfl) rfl ?_
    refine e_getR ci_X3 (dt dk_X3_widen 18 rfl) rfl (by decide) rfl fl_X3_9 ?_
    refine e_iload_n (dt dk_X3_widen 19 rfl) rfl ?_
    refine e_if (fun h7 => ?_)
    refine e_iald' (v := (M 29 (ix v2))) (dt dk_X3_widen 20 rfl) rfl h7 rfl ?_
    refine e_iload (dt dk_X3_widen 21 rfl) rfl ?_
    refine e_ishr (dt dk_X3_widen 22 rfl) ?_
    refine e_iconst (v := (1 : Int32)) (dt dk_X3_widen 23 rfl) (by decide) ?_
    refine e_iand (dt dk_X3_widen 24 rfl) ?_
    refine e_iconst (v := (1 : Int32)) (dt dk_X3_widen 25 rfl) (by decide) ?_
    refine e_icmp_ne 52 (dt dk_X3_widen 26 rfl) (by decide) (fun h8 => ?_) (fun h8 => ?_)
    · refine e_iload_n (dt dk_X3_widen 27 rfl) rfl ?_
      refine e_aload_n (dt dk_X3_widen 28 rfl) rfl ?_
      refine e_getR ci_X3 (dt dk_X3_widen 29 rfl) rfl (by decide) rfl fl_X3_18 ?_
      refine e_iload (dt dk_X3_widen 30 rfl) rfl ?_
      refine e_if (fun h9 => ?_)
      refine e_iald' (v := (M 31 (ix v4))) (dt dk_X3_widen 31 rfl) rfl h9 rfl ?_
      refine e_ior (dt dk_X3_widen 32 rfl) ?_
      refine e_istore_n [some (.ref 28), some (.int v1), some (.int v2), some (.int (v3 ||| (M 31 (ix v4)))), some (.int v4)] (dt dk_X3_widen 33 rfl) rfl rfl rfl ?_
      refine e_iinc [some (.ref 28), some (.int v1), some (.int v2), some (.int (v3 ||| (M 31 (ix v4)))), some (.int (v4 + (1 : Int32)))] (dt dk_X3_widen 34 rfl) rfl rfl rfl rfl ?_
      refine e_goto 20 (dt dk_X3_widen 35 rfl) (by decide) ?_
      exact e_forget [true, true, true, true, true] [some (.ref 28), some (.int v1), some (.int v2), some (.int (v3 ||| (M 31 (ix v4)))), some (.int (v4 + (1 : Int32)))] ⟨rfl, rfl⟩ (hK20 v1 v2 (v3 ||| (M 31 (ix v4))) (v4 + (1 : Int32)) M)
    · refine e_iinc [some (.ref 28), some (.int v1), some (.int v2), some (.int v3), some (.int (v4 + (1 : Int32)))] (dt dk_X3_widen 34 rfl) rfl rfl rfl rfl ?_
      refine e_goto 20 (dt dk_X3_widen 35 rfl) (by decide) ?_
      exact e_forget [true, true, true, true, true] [some (.ref 28), some (.int v1), some (.int v2), some (.int v3), some (.int (v4 + (1 : Int32)))] ⟨rfl, rfl⟩ (hK20 v1 v2 v3 (v4 + (1 : Int32)) M)
def lp_X3_widen_28_20 (K4 : Int32 → Int32 → Mem → Option (Int32 × Mem)) : Nat → Int32 → Int32 → Int32 → Int32 → Mem → Option (Int32 × Mem)
  | 0 => fun _ _ _ _ _ => none
  | n + 1 => bd_X3_widen_28_20 K4 (lp_X3_widen_28_20 K4 n)
theorem ev_lp_X3_widen_28_20 (K4 : Int32 → Int32 → Mem → Option (Int32 × Mem)) (hK4 : ∀ (v1 : Int32) (v2 : Int32) (M : Mem), Ev none wI RX3 cX3_widen (some .boolean) 0 4 [some (.ref 28), some (.int v1), some (.int v2), none, none] [] M (K4 v1 v2 M)) : ∀ (n : Nat), ∀ (v1 : Int32) (v2 : Int32) (v3 : Int32) (v4 : Int32) (M : Mem), Ev none wI RX3 cX3_widen (some .boolean) 0 20 [some (.ref 28), some (.int v1), some (.int v2), some (.int v3), some (.int v4)] [] M (lp_X3_widen_28_20 K4 n v1 v2 v3 v4 M)
  | 0 => fun _ _ _ _ _ => e_none
  | n + 1 => ev_bd_X3_widen_28_20 K4 (lp_X3_widen_28_20 K4 n) hK4 (ev_lp_X3_widen_28_20 K4 hK4 n)
def bd_X3_widen_28_4  (K4 : Int32 → Int32 → Mem → Option (Int32 × Mem)) (v1 : Int32) (v2 : Int32) (M : Mem) : Option (Int32 × Mem) :=
  (if (8 : Int32) ≤ v2 then (if v1 = 0 ∨ v1 = 1 then some (v1, M) else none) else if inb v2 8 then (lp_X3_widen_28_20 K4 FU v1 v2 (M 30 (ix v2)) (0 : Int32) M) else none)
set_option maxRecDepth 20000 in
set_option maxHeartbeats 2000000 in
theorem ev_bd_X3_widen_28_4  (K4 : Int32 → Int32 → Mem → Option (Int32 × Mem))  (hK4 : ∀ (v1 : Int32) (v2 : Int32) (M : Mem), Ev none wI RX3 cX3_widen (some .boolean) 0 4 [some (.ref 28), some (.int v1), some (.int v2), none, none] [] M (K4 v1 v2 M)) (v1 : Int32) (v2 : Int32) (M : Mem) : Ev none wI RX3 cX3_widen (some .boolean) 0 4 [some (.ref 28), some (.int v1), some (.int v2), none, none] [] M (bd_X3_widen_28_4 K4 v1 v2 M) := by
  unfold bd_X3_widen_28_4
  refine e_iload_n (dt dk_X3_widen 4 rfl) rfl ?_
  refine e_bipush (v := (8 : Int32)) (dt dk_X3_widen 5 rfl) (by decide) ?_
  refine e_icmp_ge 89 (dt dk_X3_widen 6 rfl) (by decide) (fun h1 => ?_) (fun h1 => ?_)
  · refine e_iload_n (dt dk_X3_widen 55 rfl) rfl ?_
    exact e_zret (dt dk_X3_widen 56 rfl) rfl rfl
  · refine e_aload_n (dt dk_X3_widen 7 rfl) rfl ?_
    refine e_getR ci_X3 (dt dk_X3_widen 8 rfl) rfl (by decide) rfl fl_X3_15 ?_
    refine e_iload_n (dt dk_X3_widen 9 rfl) rfl ?_
    refine e_if (fun h2 => ?_)
    refine e_iald' (v := (M 30 (ix v2))) (dt dk_X3_widen 10 rfl) rfl h2 rfl ?_
    refine e_istore_n [some (.ref 28), some (.int v1), some (.int v2), some (.int (M 30 (ix v2))), none] (dt dk_X3_widen 11 rfl) rfl rfl rfl ?_
    refine e_iconst (v := (0 : Int32)) (dt dk_X3_widen 12 rfl) (by decide) ?_
    refine e_istore [some (.ref 28), some (.int v1), some (.int v2), some (.int (M 30 (ix v2))), some (.int (0 : Int32))] (dt dk_X3_widen 13 rfl) rfl rfl rfl ?_
    exact e_forget [true, true, true, true, true] [some (.ref 28), some (.int v1), some (.int v2), some (.int (M 30 (ix v2))), some (.int (0 : Int32))] ⟨rfl, rfl⟩ (ev_lp_X3_widen_28_20 K4 hK4 FU v1 v2 (M 30 (ix v2)) (0 : Int32) M)
def lp_X3_widen_28_4  : Nat → Int32 → Int32 → Mem → Option (Int32 × Mem)
  | 0 => fun _ _ _ => none
  | n + 1 => bd_X3_widen_28_4 (lp_X3_widen_28_4 n)
theorem ev_lp_X3_widen_28_4   : ∀ (n : Nat), ∀ (v1 : Int32) (v2 : Int32) (M : Mem), Ev none wI RX3 cX3_widen (some .boolean) 0 4 [some (.ref 28), some (.int v1), some (.int v2), none, none] [] M (lp_X3_widen_28_4 n v1 v2 M)
  | 0 => fun _ _ _ => e_none
  | n + 1 => ev_bd_X3_widen_28_4 (lp_X3_widen_28_4 n) (ev_lp_X3_widen_28_4 n)
def f_X3_widen_28  (M : Mem) : Option (Int32 × Mem) :=
  (lp_X3_widen_28_4 FU (0 : Int32) (0 : Int32) M)
set_option maxRecDepth 20000 in
set_option maxHeartbeats 2000000 in
theorem sp_X3_widen_28  (M : Mem) : SpO wI yX3_widen cX3_widen 5 (some .boolean) 0 [.ref 28] M (f_X3_widen_28 M) := by
  refine sp_of (L := [some (.ref 28), none, none, none, none]) rfl (by decide +kernel) rfl rfl ?_
  unfold f_X3_widen_28
  refine e_iconst (v := (0 : Int32)) (dt dk_X3_widen 0 rfl) (by decide) ?_
  refine e_istore_n [some (.ref 28), some (.int (0 : Int32)), none, none, none] (dt dk_X3_widen 1 rfl) rfl rfl rfl ?_
  refine e_iconst (v := (0 : Int32)) (dt dk_X3_widen 2 rfl) (by decide) ?_
  refine e_istore_n [some (.ref 28), some (.int (0 : Int32)), some (.int (0 : Int32)), none, none] (dt dk_X3_widen 3 rfl) rfl rfl rfl ?_
  exact e_forget [true, true, true, false, false] [some (.ref 28), some (.int (0 : Int32)), some (.int (0 : Int32)), none, none] ⟨rfl, rfl⟩ (ev_lp_X3_widen_28_4 FU (0 : Int32) (0 : Int32) M)
-- X3_follow_28_6 (W, depth 1)
def lb_X3_follow_28_6_127 (K77 : Int32 → Int32 → Int32 → Int32 → Mem → Option Mem) (v2 : Int32) (v3 : Int32) (v5 : Int32) (M : Mem) : Option Mem :=
  ((f_X3_widen_28 M)).bind fun q9 => (K77 v2 v3 q9.1 (v5 + (1 : Int32)) q9.2)
set_option maxRecDepth 20000 in
set_option maxHeartbeats 2000000 in
theorem ev_lb_X3_follow_28_6_127 (K77 : Int32 → Int32 → Int32 → Int32 → Mem → Option Mem) (hK77 : ∀ (v2 : Int32) (v3 : Int32) (v4 : Int32) (v5 : Int32) (M : Mem), Ev none wV RX3 cX3_follow none 1 77 [some (.ref 28), none, some (.int v2), some (.int v3), some (.int v4), some (.int v5)] [] M (K77 v2 v3 v4 v5 M)) (v2 : Int32) (v3 : Int32) (v5 : Int32) (M : Mem) : Ev none wV RX3 cX3_follow none 1 127 [some (.ref 28), none, some (.int v2), some (.int v3), none, some (.int v5)] [] M (lb_X3_follow_28_6_127 K77 v2 v3 v5 M) := by
  unfold lb_X3_follow_28_6_127
  refine e_aload_n (dt dk_X3_follow 68 rfl) rfl ?_
  refine ev_call (ca_V (k := 28) mv_X3_widen (sp_X3_widen_28 M) (dt dk_X3_follow 69 rfl) ml_X3_35 rfl rfl rfl rfl rfl (by decide) : Ca _ _ _ _ _ _ _ _ [] _ _) (fun q9 hq9 => ?_)
  show Ev _ _ _ _ _ _ 131 [some (.ref 28), none, some (.int v2), some (.int v3), none, some (.int v5)] [.int q9.1] q9.2 _
  refine e_istore [some (.ref 28), none, some (.int v2), some (.int v3), some (.int q9.1), some (.int v5)] (dt dk_X3_follow 70 rfl) rfl rfl rfl ?_
  refine e_iinc [some (.ref 28), none, some (.int v2), some (.int v3), some (.int q9.1), some (.int (v5 + (1 : Int32)))] (dt dk_X3_follow 71 rfl) rfl rfl rfl rfl ?_
  refine e_goto 77 (dt dk_X3_follow 72 rfl) (by decide) ?_
  exact e_forget [true, false, true, true, true, true] [some (.ref 28), none, some (.int v2), some (.int v3), some (.int q9.1), some (.int (v5 + (1 : Int32)))] ⟨rfl, rfl⟩ (hK77 v2 v3 q9.1 (v5 + (1 : Int32)) q9.2)
def bd_X3_follow_28_6_77  (K77 : Int32 → Int32 → Int32 → Int32 → Mem → Option Mem) (v2 : Int32) (v3 : Int32) (v4 : Int32) (v5 : Int32) (M : Mem) : Option Mem :=
  (if (64 : Int32) < v5 then some M else (if (M 28 3) = (-6 : Int32) then (if v4 = 0 then some M else ((f_X3_shutIn_28 M)).bind fun q6 => ((f_X3_firstGoing_28 v2 v3 q6)).bind fun r7 => (if r7 = (-6 : Int32) then (lb_X3_follow_28_6_127 K77 v2 v3 v5 (up2 q6 28 4 r7)) else (lb_X3_follow_28_6_127 K77 v2 v3 v5 (up2 (up2 q6 28 4 r7) 28 3 v5)))) else some M))
set_option maxRecDepth 20000 in
set_option maxHeartbeats 2000000 in
theorem ev_bd_X3_follow_28_6_77  (K77 : Int32 → Int32 → Int32 → Int32 → Mem → Option Mem)  (hK77 : ∀ (v2 : Int32) (v3 : Int32) (v4 : Int32) (v5 : Int32) (M : Mem), Ev none wV RX3 cX3_follow none 1 77 [some (.ref 28), none, some (.int v2), some (.int v3), some (.int v4), some (.int v5)] [] M (K77 v2 v3 v4 v5 M)) (v2 : Int32) (v3 : Int32) (v4 : Int32) (v5 : Int32) (M : Mem) : Ev none wV RX3 cX3_follow none 1 77 [some (.ref 28), none, some (.int v2), some (.int v3), some (.int v4), some (.int v5)] [] M (bd_X3_follow_28_6_77 K77 v2 v3 v4 v5 M) := by
  unfold bd_X3_follow_28_6_77
  refine e_iload (dt dk_X3_follow 44 rfl) rfl ?_
  refine e_bipush (v := (64 : Int32)) (dt dk_X3_follow 45 rfl) (by decide) ?_
  refine e_icmp_gt 139 (dt dk_X3_follow 46 rfl) (by decide) (fun h3 => ?_) (fun h3 => ?_)
  · exact e_vret (dt dk_X3_follow 73 rfl) rfl rfl
  · refine e_aload_n (dt dk_X3_follow 47 rfl) rfl ?_
    refine e_getI (v := (M 28 3)) ci_X3 (dt dk_X3_follow 48 rfl) rfl (by decide) rfl fl_X3_21 rfl ?_
    refine e_bipush (v := (-6 : Int32)) (dt dk_X3_follow 49 rfl) (by decide) ?_
    refine e_icmp_ne 139 (dt dk_X3_follow 50 rfl) (by decide) (fun h4 => ?_) (fun h4 => ?_)
    · refine e_iload (dt dk_X3_follow 51 rfl) rfl ?_
      refine e_if_eq 139 (dt dk_X3_follow 52 rfl) (by decide) (fun h5 => ?_) (fun h5 => ?_)
      · exact e_vret (dt dk_X3_follow 73 rfl) rfl rfl
      · refine e_aload_n (dt dk_X3_follow 53 rfl) rfl ?_
        refine ev_call (ca_V (k := 28) mv_X3_shutIn (sp_X3_shutIn_28 M) (dt dk_X3_follow 54 rfl) ml_X3_28 rfl rfl rfl rfl rfl (by decide) : Ca _ _ _ _ _ _ _ _ [] _ _) (fun q6 hq6 => ?_)
        show Ev _ _ _ _ _ _ 102 [some (.ref 28), none, some (.int v2), some (.int v3), some (.int v4), some (.int v5)] [] q6 _
        refine e_aload_n (dt dk_X3_follow 55 rfl) rfl ?_
        refine e_aload_n (dt dk_X3_follow 56 rfl) rfl ?_
        refine e_iload_n (dt dk_X3_follow 57 rfl) rfl ?_
        refine e_iload_n (dt dk_X3_follow 58 rfl) rfl ?_
        refine ev_call (ca_V (k := 28) mv_X3_firstGoing (sp_X3_firstGoing_28 v2 v3 q6) (dt dk_X3_follow 59 rfl) ml_X3_31 rfl rfl rfl rfl rfl (by decide) : Ca _ _ _ _ _ _ _ _ [.ref 28] _ _) (fun r7 hr7 => ?_)
        show Ev _ _ _ _ _ _ 109 [some (.ref 28), none, some (.int v2), some (.int v3), some (.int v4), some (.int v5)] [.int r7, .ref 28] q6 _
        refine e_putI (ty := .int) ci_X3 (dt dk_X3_follow 60 rfl) rfl (by decide) rfl fl_X3_25 rfl (by decide +kernel) rfl rfl ?_
        refine e_aload_n (dt dk_X3_follow 61 rfl) rfl ?_
        refine e_getI (v := r7) ci_X3 (dt dk_X3_follow 62 rfl) rfl (by decide) rfl fl_X3_25 rfl ?_
        refine e_bipush (v := (-6 : Int32)) (dt dk_X3_follow 63 rfl) (by decide) ?_
        refine e_icmp_eq 127 (dt dk_X3_follow 64 rfl) (by decide) (fun h8 => ?_) (fun h8 => ?_)
        · exact e_forget [true, false, true, true, false, true] [some (.ref 28), none, some (.int v2), some (.int v3), none, some (.int v5)] ⟨rfl, rfl⟩ (ev_lb_X3_follow_28_6_127 K77 hK77 v2 v3 v5 (up2 q6 28 4 r7))
        · refine e_aload_n (dt dk_X3_follow 65 rfl) rfl ?_
          refine e_iload (dt dk_X3_follow 66 rfl) rfl ?_
          refine e_putI (ty := .int) ci_X3 (dt dk_X3_follow 67 rfl) rfl (by decide) rfl fl_X3_21 rfl (by decide +kernel) rfl rfl ?_
          exact e_forget [true, false, true, true, false, true] [some (.ref 28), none, some (.int v2), some (.int v3), none, some (.int v5)] ⟨rfl, rfl⟩ (ev_lb_X3_follow_28_6_127 K77 hK77 v2 v3 v5 (up2 (up2 q6 28 4 r7) 28 3 v5))
    · exact e_vret (dt dk_X3_follow 73 rfl) rfl rfl
def lp_X3_follow_28_6_77  : Nat → Int32 → Int32 → Int32 → Int32 → Mem → Option Mem
  | 0 => fun _ _ _ _ _ => none
  | n + 1 => bd_X3_follow_28_6_77 (lp_X3_follow_28_6_77 n)
theorem ev_lp_X3_follow_28_6_77   : ∀ (n : Nat), ∀ (v2 : Int32) (v3 : Int32) (v4 : Int32) (v5 : Int32) (M : Mem), Ev none wV RX3 cX3_follow none 1 77 [some (.ref 28), none, some (.int v2), some (.int v3), some (.int v4), some (.int v5)] [] M (lp_X3_follow_28_6_77 n v2 v3 v4 v5 M)
  | 0 => fun _ _ _ _ _ => e_none
  | n + 1 => ev_bd_X3_follow_28_6_77 (lp_X3_follow_28_6_77 n) (ev_lp_X3_follow_28_6_77 n)
def lb_X3_follow_28_6_71  (v2 : Int32) (v3 : Int32) (M : Mem) : Option Mem :=
  (lp_X3_follow_28_6_77 FU v2 v3 (1 : Int32) (1 : Int32) M)
set_option maxRecDepth 20000 in
set_option maxHeartbeats 2000000 in
theorem ev_lb_X3_follow_28_6_71   (v2 : Int32) (v3 : Int32) (M : Mem) : Ev none wV RX3 cX3_follow none 1 71 [some (.ref 28), none, some (.int v2), some (.int v3), none, none] [] M (lb_X3_follow_28_6_71 v2 v3 M) := by
  unfold lb_X3_follow_28_6_71
  refine e_iconst (v := (1 : Int32)) (dt dk_X3_follow 40 rfl) (by decide) ?_
  refine e_istore [some (.ref 28), none, some (.int v2), some (.int v3), some (.int (1 : Int32)), none] (dt dk_X3_follow 41 rfl) rfl rfl rfl ?_
  refine e_iconst (v := (1 : Int32)) (dt dk_X3_follow 42 rfl) (by decide) ?_
  refine e_istore [some (.ref 28), none, some (.int v2), some (.int v3), some (.int (1 : Int32)), some (.int (1 : Int32))] (dt dk_X3_follow 43 rfl) rfl rfl rfl ?_
  exact e_forget [true, false, true, true, true, true] [some (.ref 28), none, some (.int v2), some (.int v3), some (.int (1 : Int32)), some (.int (1 : Int32))] ⟨rfl, rfl⟩ (ev_lp_X3_follow_28_6_77 FU v2 v3 (1 : Int32) (1 : Int32) M)
def bd_X3_follow_28_6_24  (K24 : Int32 → Int32 → Int32 → Mem → Option Mem) (v2 : Int32) (v3 : Int32) (v4 : Int32) (M : Mem) : Option Mem :=
  (if (8 : Int32) ≤ v4 then (lb_X3_follow_28_6_71 v2 v3 M) else (if (8 : Int32) ≤ v4 then (lb_X3_follow_28_6_71 v2 v3 M) else if inb v4 8 then if inb v4 8 then if inb v4 8 then (K24 v2 v3 (v4 + (1 : Int32)) (up2 (up2 M 29 (ix v4) ((M 6 (ix v4)) ||| ((1 : Int32) <<< (v4 &&& 31)))) 30 (ix v4) ((1 : Int32) <<< (v4 &&& 31)))) else none else none else none))
set_option maxRecDepth 20000 in
set_option maxHeartbeats 2000000 in
theorem ev_bd_X3_follow_28_6_24  (K24 : Int32 → Int32 → Int32 → Mem → Option Mem)  (hK24 : ∀ (v2 : Int32) (v3 : Int32) (v4 : Int32) (M : Mem), Ev none wV RX3 cX3_follow none 1 24 [some (.ref 28), some (.ref 6), some (.int v2), some (.int v3), some (.int v4), none] [] M (K24 v2 v3 v4 M)) (v2 : Int32) (v3 : Int32) (v4 : Int32) (M : Mem) : Ev none wV RX3 cX3_follow none 1 24 [some (.ref 28), some (.ref 6), some (.int v2), some (.int v3), some (.int v4), none] [] M (bd_X3_follow_28_6_24 K24 v2 v3 v4 M) := by
  unfold bd_X3_follow_28_6_24
  refine e_iload (dt dk_X3_follow 13 rfl) rfl ?_
  refine e_bipush (v := (8 : Int32)) (dt dk_X3_follow 14 rfl) (by decide) ?_
  refine e_icmp_ge 71 (dt dk_X3_follow 15 rfl) (by decide) (fun h2 => ?_) (fun h2 => ?_)
  · exact e_forget [true, false, true, true, false, false] [some (.ref 28), none, some (.int v2), some (.int v3), none, none] ⟨rfl, rfl⟩ (ev_lb_X3_follow_28_6_71 v2 v3 M)
  · refine e_iload (dt dk_X3_follow 16 rfl) rfl ?_
    refine e_aload_n (dt dk_X3_follow 17 rfl) rfl ?_
    refine e_len (v := (8 : Int32)) (dt dk_X3_follow 18 rfl) rfl (by decide) ?_
    refine e_icmp_ge 71 (dt dk_X3_follow 19 rfl) (by decide) (fun h10 => ?_) (fun h10 => ?_)
    · exact e_forget [true, false, true, true, false, false] [some (.ref 28), none, some (.int v2), some (.int v3), none, none] ⟨rfl, rfl⟩ (ev_lb_X3_follow_28_6_71 v2 v3 M)
    · refine e_aload_n (dt dk_X3_follow 20 rfl) rfl ?_
      refine e_getR ci_X3 (dt dk_X3_follow 21 rfl) rfl (by decide) rfl fl_X3_9 ?_
      refine e_iload (dt dk_X3_follow 22 rfl) rfl ?_
      refine e_aload_n (dt dk_X3_follow 23 rfl) rfl ?_
      refine e_iload (dt dk_X3_follow 24 rfl) rfl ?_
      refine e_if (fun h11 => ?_)
      refine e_iald' (v := (M 6 (ix v4))) (dt dk_X3_follow 25 rfl) rfl h11 rfl ?_
      refine e_iconst (v := (1 : Int32)) (dt dk_X3_follow 26 rfl) (by decide) ?_
      refine e_iload (dt dk_X3_follow 27 rfl) rfl ?_
      refine e_ishl (dt dk_X3_follow 28 rfl) ?_
      refine e_ior (dt dk_X3_follow 29 rfl) ?_
      refine e_if (fun h12 => ?_)
      refine e_iast' (dt dk_X3_follow 30 rfl) rfl h12 ?_
      refine e_aload_n (dt dk_X3_follow 31 rfl) rfl ?_
      refine e_getR ci_X3 (dt dk_X3_follow 32 rfl) rfl (by decide) rfl fl_X3_15 ?_
      refine e_iload (dt dk_X3_follow 33 rfl) rfl ?_
      refine e_iconst (v := (1 : Int32)) (dt dk_X3_follow 34 rfl) (by decide) ?_
      refine e_iload (dt dk_X3_follow 35 rfl) rfl ?_
      refine e_ishl (dt dk_X3_follow 36 rfl) ?_
      refine e_if (fun h13 => ?_)
      refine e_iast' (dt dk_X3_follow 37 rfl) rfl h13 ?_
      refine e_iinc [some (.ref 28), some (.ref 6), some (.int v2), some (.int v3), some (.int (v4 + (1 : Int32))), none] (dt dk_X3_follow 38 rfl) rfl rfl rfl rfl ?_
      refine e_goto 24 (dt dk_X3_follow 39 rfl) (by decide) ?_
      exact e_forget [true, true, true, true, true, false] [some (.ref 28), some (.ref 6), some (.int v2), some (.int v3), some (.int (v4 + (1 : Int32))), none] ⟨rfl, rfl⟩ (hK24 v2 v3 (v4 + (1 : Int32)) (up2 (up2 M 29 (ix v4) ((M 6 (ix v4)) ||| ((1 : Int32) <<< (v4 &&& 31)))) 30 (ix v4) ((1 : Int32) <<< (v4 &&& 31))))
def lp_X3_follow_28_6_24  : Nat → Int32 → Int32 → Int32 → Mem → Option Mem
  | 0 => fun _ _ _ _ => none
  | n + 1 => bd_X3_follow_28_6_24 (lp_X3_follow_28_6_24 n)
theorem ev_lp_X3_follow_28_6_24   : ∀ (n : Nat), ∀ (v2 : Int32) (v3 : Int32) (v4 : Int32) (M : Mem), Ev none wV RX3 cX3_follow none 1 24 [some (.ref 28), some (.ref 6), some (.int v2), some (.int v3), some (.int v4), none] [] M (lp_X3_follow_28_6_24 n v2 v3 v4 M)
  | 0 => fun _ _ _ _ => e_none
  | n + 1 => ev_bd_X3_follow_28_6_24 (lp_X3_follow_28_6_24 n) (ev_lp_X3_follow_28_6_24 n)
def lb_X3_follow_28_6_12  (v2 : Int32) (v3 : Int32) (s0 : Int32) (M : Mem) : Option Mem :=
  (lp_X3_follow_28_6_24 FU v2 v3 (0 : Int32) (up2 (up2 M 28 3 s0) 28 4 (-6 : Int32)))
set_option maxRecDepth 20000 in
set_option maxHeartbeats 2000000 in
theorem ev_lb_X3_follow_28_6_12   (v2 : Int32) (v3 : Int32) (s0 : Int32) (M : Mem) : Ev none wV RX3 cX3_follow none 1 12 [some (.ref 28), some (.ref 6), some (.int v2), some (.int v3), none, none] [.int s0, .ref 28] M (lb_X3_follow_28_6_12 v2 v3 s0 M) := by
  unfold lb_X3_follow_28_6_12
  refine e_putI (ty := .int) ci_X3 (dt dk_X3_follow 7 rfl) rfl (by decide) rfl fl_X3_21 rfl (by decide +kernel) rfl rfl ?_
  refine e_aload_n (dt dk_X3_follow 8 rfl) rfl ?_
  refine e_bipush (v := (-6 : Int32)) (dt dk_X3_follow 9 rfl) (by decide) ?_
  refine e_putI (ty := .int) ci_X3 (dt dk_X3_follow 10 rfl) rfl (by decide) rfl fl_X3_25 rfl (by decide +kernel) rfl rfl ?_
  refine e_iconst (v := (0 : Int32)) (dt dk_X3_follow 11 rfl) (by decide) ?_
  refine e_istore [some (.ref 28), some (.ref 6), some (.int v2), some (.int v3), some (.int (0 : Int32)), none] (dt dk_X3_follow 12 rfl) rfl rfl rfl ?_
  exact e_forget [true, true, true, true, true, false] [some (.ref 28), some (.ref 6), some (.int v2), some (.int v3), some (.int (0 : Int32)), none] ⟨rfl, rfl⟩ (ev_lp_X3_follow_28_6_24 FU v2 v3 (0 : Int32) (up2 (up2 M 28 3 s0) 28 4 (-6 : Int32)))
def f_X3_follow_28_6 (v2 : Int32) (v3 : Int32) (M : Mem) : Option Mem :=
  (if v2 = v3 then (lb_X3_follow_28_6_12 v2 v3 (0 : Int32) M) else (lb_X3_follow_28_6_12 v2 v3 (-6 : Int32) M))
set_option maxRecDepth 20000 in
set_option maxHeartbeats 2000000 in
theorem sp_X3_follow_28_6 (v2 : Int32) (v3 : Int32) (M : Mem) : SpO wV yX3_follow cX3_follow 6 none 1 [.ref 28, .ref 6, .int v2, .int v3] M (f_X3_follow_28_6 v2 v3 M) := by
  refine sp_of (L := [some (.ref 28), some (.ref 6), some (.int v2), some (.int v3), none, none]) rfl (by decide +kernel) rfl rfl ?_
  unfold f_X3_follow_28_6
  refine e_aload_n (dt dk_X3_follow 0 rfl) rfl ?_
  refine e_iload_n (dt dk_X3_follow 1 rfl) rfl ?_
  refine e_iload_n (dt dk_X3_follow 2 rfl) rfl ?_
  refine e_icmp_ne 10 (dt dk_X3_follow 3 rfl) (by decide) (fun h1 => ?_) (fun h1 => ?_)
  · refine e_iconst (v := (0 : Int32)) (dt dk_X3_follow 4 rfl) (by decide) ?_
    refine e_goto 12 (dt dk_X3_follow 5 rfl) (by decide) ?_
    exact e_forget [true, true, true, true, false, false] [some (.ref 28), some (.ref 6), some (.int v2), some (.int v3), none, none] ⟨rfl, rfl⟩ (ev_lb_X3_follow_28_6_12 v2 v3 (0 : Int32) M)
  · refine e_bipush (v := (-6 : Int32)) (dt dk_X3_follow 6 rfl) (by decide) ?_
    exact e_forget [true, true, true, true, false, false] [some (.ref 28), some (.ref 6), some (.int v2), some (.int v3), none, none] ⟨rfl, rfl⟩ (ev_lb_X3_follow_28_6_12 v2 v3 (-6 : Int32) M)
-- X9_commonDivisor (R, depth 0)
def bd_X9_commonDivisor_9  (K9 : Int64 → Int64 → Int32 → Option Int64) (v4 : Int64) (v6 : Int64) (v8 : Int32) : Option Int64 :=
  (if (100 : Int32) ≤ v8 then some v4 else (if (lg_cmp v6 (0 : Int64)) = 0 then some v4 else if v6 = 0 then none else (K9 v6 (remL v4 v6) (v8 + (1 : Int32)))))
set_option maxRecDepth 20000 in
set_option maxHeartbeats 2000000 in
theorem ev_bd_X9_commonDivisor_9 (M : Mem)  (K9 : Int64 → Int64 → Int32 → Option Int64)  (hK9 : ∀ (v4 : Int64) (v6 : Int64) (v8 : Int32), Ev none (wL M) RX9 cX9_commonDivisor (some .long) 0 9 [none, none, none, none, some (.long v4), none, some (.long v6), none, some (.int v8), none, none] [] M (K9 v4 v6 v8)) (v4 : Int64) (v6 : Int64) (v8 : Int32) : Ev none (wL M) RX9 cX9_commonDivisor (some .long) 0 9 [none, none, none, none, some (.long v4), none, some (.long v6), none, some (.int v8), none, none] [] M (bd_X9_commonDivisor_9 K9 v4 v6 v8) := by
  unfold bd_X9_commonDivisor_9
  refine e_iload (dt dk_X9_commonDivisor 6 rfl) rfl ?_
  refine e_bipush (v := (100 : Int32)) (dt dk_X9_commonDivisor 7 rfl) (by decide) ?_
  refine e_icmp_ge 44 (dt dk_X9_commonDivisor 8 rfl) (by decide) (fun h1 => ?_) (fun h1 => ?_)
  · refine e_lload (dt dk_X9_commonDivisor 23 rfl) rfl ?_
    exact e_lret (dt dk_X9_commonDivisor 24 rfl) rfl rfl
  · refine e_lload (dt dk_X9_commonDivisor 9 rfl) rfl ?_
    refine e_lconst (v := (0 : Int64)) (dt dk_X9_commonDivisor 10 rfl) (by decide) ?_
    refine e_lcmp (dt dk_X9_commonDivisor 11 rfl) ?_
    refine e_if_eq 44 (dt dk_X9_commonDivisor 12 rfl) (by decide) (fun h2 => ?_) (fun h2 => ?_)
    · refine e_lload (dt dk_X9_commonDivisor 23 rfl) rfl ?_
      exact e_lret (dt dk_X9_commonDivisor 24 rfl) rfl rfl
    · refine e_lload (dt dk_X9_commonDivisor 13 rfl) rfl ?_
      refine e_lload (dt dk_X9_commonDivisor 14 rfl) rfl ?_
      refine e_lrem (dt dk_X9_commonDivisor 15 rfl) ?_
      show Ev _ _ _ _ _ _ 28 [none, none, none, none, some (.long v4), none, some (.long v6), none, some (.int v8), none, none] [.long (remL v4 v6)] M _
      refine e_lstore [none, none, none, none, some (.long v4), none, some (.long v6), none, some (.int v8), some (.long (remL v4 v6)), none] (dt dk_X9_commonDivisor 16 rfl) rfl rfl rfl ?_
      refine e_lload (dt dk_X9_commonDivisor 17 rfl) rfl ?_
      refine e_lstore [none, none, none, none, some (.long v6), none, some (.long v6), none, some (.int v8), some (.long (remL v4 v6)), none] (dt dk_X9_commonDivisor 18 rfl) rfl rfl rfl ?_
      refine e_lload (dt dk_X9_commonDivisor 19 rfl) rfl ?_
      refine e_lstore [none, none, none, none, some (.long v6), none, some (.long (remL v4 v6)), none, some (.int v8), some (.long (remL v4 v6)), none] (dt dk_X9_commonDivisor 20 rfl) rfl rfl rfl ?_
      refine e_iinc [none, none, none, none, some (.long v6), none, some (.long (remL v4 v6)), none, some (.int (v8 + (1 : Int32))), some (.long (remL v4 v6)), none] (dt dk_X9_commonDivisor 21 rfl) rfl rfl rfl rfl ?_
      refine e_goto 9 (dt dk_X9_commonDivisor 22 rfl) (by decide) ?_
      exact e_forget [false, false, false, false, true, false, true, false, true, false, false] [none, none, none, none, some (.long v6), none, some (.long (remL v4 v6)), none, some (.int (v8 + (1 : Int32))), none, none] ⟨rfl, rfl⟩ (hK9 v6 (remL v4 v6) (v8 + (1 : Int32)))
def lp_X9_commonDivisor_9  : Nat → Int64 → Int64 → Int32 → Option Int64
  | 0 => fun _ _ _ => none
  | n + 1 => bd_X9_commonDivisor_9 (lp_X9_commonDivisor_9 n)
theorem ev_lp_X9_commonDivisor_9 (M : Mem)   : ∀ (n : Nat), ∀ (v4 : Int64) (v6 : Int64) (v8 : Int32), Ev none (wL M) RX9 cX9_commonDivisor (some .long) 0 9 [none, none, none, none, some (.long v4), none, some (.long v6), none, some (.int v8), none, none] [] M (lp_X9_commonDivisor_9 n v4 v6 v8)
  | 0 => fun _ _ _ => e_none
  | n + 1 => ev_bd_X9_commonDivisor_9 M (lp_X9_commonDivisor_9 n) (ev_lp_X9_commonDivisor_9 M n)
def f_X9_commonDivisor (v0 : Int64) (v2 : Int64) : Option Int64 :=
  (lp_X9_commonDivisor_9 FU v0 v2 (0 : Int32))
set_option maxRecDepth 20000 in
set_option maxHeartbeats 2000000 in
theorem sp_X9_commonDivisor (v0 : Int64) (v2 : Int64) (M : Mem) : SpO (wL M) yX9_commonDivisor cX9_commonDivisor 11 (some .long) 0 [.long v0, .long v2] M (f_X9_commonDivisor v0 v2) := by
  refine sp_of (L := [some (.long v0), none, some (.long v2), none, none, none, none, none, none, none, none]) rfl (by decide +kernel) rfl rfl ?_
  unfold f_X9_commonDivisor
  refine e_lload_n (dt dk_X9_commonDivisor 0 rfl) rfl ?_
  refine e_lstore [some (.long v0), none, some (.long v2), none, some (.long v0), none, none, none, none, none, none] (dt dk_X9_commonDivisor 1 rfl) rfl rfl rfl ?_
  refine e_lload_n (dt dk_X9_commonDivisor 2 rfl) rfl ?_
  refine e_lstore [some (.long v0), none, some (.long v2), none, some (.long v0), none, some (.long v2), none, none, none, none] (dt dk_X9_commonDivisor 3 rfl) rfl rfl rfl ?_
  refine e_iconst (v := (0 : Int32)) (dt dk_X9_commonDivisor 4 rfl) (by decide) ?_
  refine e_istore [some (.long v0), none, some (.long v2), none, some (.long v0), none, some (.long v2), none, some (.int (0 : Int32)), none, none] (dt dk_X9_commonDivisor 5 rfl) rfl rfl rfl ?_
  exact e_forget [false, false, false, false, true, false, true, false, true, false, false] [none, none, none, none, some (.long v0), none, some (.long v2), none, some (.int (0 : Int32)), none, none] ⟨rfl, rfl⟩ (ev_lp_X9_commonDivisor_9 M FU v0 v2 (0 : Int32))
-- X9_power (R, depth 0)
def bd_X9_power_5  (K5 : Int64 → Int32 → Int64 → Int32 → Option Int64) (v0 : Int64) (v2 : Int32) (v3 : Int64) (v5 : Int32) : Option Int64 :=
  (if v2 ≤ v5 then some v3 else (K5 v0 v2 (v3 * v0) (v5 + (1 : Int32))))
set_option maxRecDepth 20000 in
set_option maxHeartbeats 2000000 in
theorem ev_bd_X9_power_5 (M : Mem)  (K5 : Int64 → Int32 → Int64 → Int32 → Option Int64)  (hK5 : ∀ (v0 : Int64) (v2 : Int32) (v3 : Int64) (v5 : Int32), Ev none (wL M) RX9 cX9_power (some .long) 0 5 [some (.long v0), none, some (.int v2), some (.long v3), none, some (.int v5)] [] M (K5 v0 v2 v3 v5)) (v0 : Int64) (v2 : Int32) (v3 : Int64) (v5 : Int32) : Ev none (wL M) RX9 cX9_power (some .long) 0 5 [some (.long v0), none, some (.int v2), some (.long v3), none, some (.int v5)] [] M (bd_X9_power_5 K5 v0 v2 v3 v5) := by
  unfold bd_X9_power_5
  refine e_iload (dt dk_X9_power 4 rfl) rfl ?_
  refine e_iload_n (dt dk_X9_power 5 rfl) rfl ?_
  refine e_icmp_ge 21 (dt dk_X9_power 6 rfl) (by decide) (fun h1 => ?_) (fun h1 => ?_)
  · refine e_lload_n (dt dk_X9_power 13 rfl) rfl ?_
    exact e_lret (dt dk_X9_power 14 rfl) rfl rfl
  · refine e_lload_n (dt dk_X9_power 7 rfl) rfl ?_
    refine e_lload_n (dt dk_X9_power 8 rfl) rfl ?_
    refine e_lmul (dt dk_X9_power 9 rfl) ?_
    refine e_lstore_n [some (.long v0), none, some (.int v2), some (.long (v3 * v0)), none, some (.int v5)] (dt dk_X9_power 10 rfl) rfl rfl rfl ?_
    refine e_iinc [some (.long v0), none, some (.int v2), some (.long (v3 * v0)), none, some (.int (v5 + (1 : Int32)))] (dt dk_X9_power 11 rfl) rfl rfl rfl rfl ?_
    refine e_goto 5 (dt dk_X9_power 12 rfl) (by decide) ?_
    exact e_forget [true, false, true, true, false, true] [some (.long v0), none, some (.int v2), some (.long (v3 * v0)), none, some (.int (v5 + (1 : Int32)))] ⟨rfl, rfl⟩ (hK5 v0 v2 (v3 * v0) (v5 + (1 : Int32)))
def lp_X9_power_5  : Nat → Int64 → Int32 → Int64 → Int32 → Option Int64
  | 0 => fun _ _ _ _ => none
  | n + 1 => bd_X9_power_5 (lp_X9_power_5 n)
theorem ev_lp_X9_power_5 (M : Mem)   : ∀ (n : Nat), ∀ (v0 : Int64) (v2 : Int32) (v3 : Int64) (v5 : Int32), Ev none (wL M) RX9 cX9_power (some .long) 0 5 [some (.long v0), none, some (.int v2), some (.long v3), none, some (.int v5)] [] M (lp_X9_power_5 n v0 v2 v3 v5)
  | 0 => fun _ _ _ _ => e_none
  | n + 1 => ev_bd_X9_power_5 M (lp_X9_power_5 n) (ev_lp_X9_power_5 M n)
def f_X9_power (v0 : Int64) (v2 : Int32) : Option Int64 :=
  (lp_X9_power_5 FU v0 v2 (1 : Int64) (0 : Int32))
set_option maxRecDepth 20000 in
set_option maxHeartbeats 2000000 in
theorem sp_X9_power (v0 : Int64) (v2 : Int32) (M : Mem) : SpO (wL M) yX9_power cX9_power 6 (some .long) 0 [.long v0, .int v2] M (f_X9_power v0 v2) := by
  refine sp_of (L := [some (.long v0), none, some (.int v2), none, none, none]) rfl (by decide +kernel) rfl rfl ?_
  unfold f_X9_power
  refine e_lconst (v := (1 : Int64)) (dt dk_X9_power 0 rfl) (by decide) ?_
  refine e_lstore_n [some (.long v0), none, some (.int v2), some (.long (1 : Int64)), none, none] (dt dk_X9_power 1 rfl) rfl rfl rfl ?_
  refine e_iconst (v := (0 : Int32)) (dt dk_X9_power 2 rfl) (by decide) ?_
  refine e_istore [some (.long v0), none, some (.int v2), some (.long (1 : Int64)), none, some (.int (0 : Int32))] (dt dk_X9_power 3 rfl) rfl rfl rfl ?_
  exact e_forget [true, false, true, true, false, true] [some (.long v0), none, some (.int v2), some (.long (1 : Int64)), none, some (.int (0 : Int32))] ⟨rfl, rfl⟩ (ev_lp_X9_power_5 M FU v0 v2 (1 : Int64) (0 : Int32))
-- J9_floorMod_7cf53 (R, depth 0)
def f_J9_floorMod_7cf53 (v0 : Int32) (v1 : Int32) : Option Int32 :=
  if v1 = 0 then none else (if 0 ≤ (v0 ^^^ v1) then some (remI v0 v1) else (if (remI v0 v1) = 0 then some (remI v0 v1) else some ((remI v0 v1) + v1)))
set_option maxRecDepth 20000 in
set_option maxHeartbeats 2000000 in
theorem sp_J9_floorMod_7cf53 (v0 : Int32) (v1 : Int32) (M : Mem) : SpO (wR M) yJ9_floorMod_7cf53 cJ9_floorMod_7cf53 3 (some .int) 0 [.int v0, .int v1] M (f_J9_floorMod_7cf53 v0 v1) := by
  refine sp_of (L := [some (.int v0), some (.int v1), none]) rfl (by decide +kernel) rfl rfl ?_
  unfold f_J9_floorMod_7cf53
  refine e_iload_n (dt dk_J9_floorMod_7cf53 0 rfl) rfl ?_
  refine e_iload_n (dt dk_J9_floorMod_7cf53 1 rfl) rfl ?_
  refine e_irem (dt dk_J9_floorMod_7cf53 2 rfl) ?_
  show Ev _ _ _ _ _ _ 3 [some (.int v0), some (.int v1), none] [.int (remI v0 v1)] M _
  refine e_istore_n [some (.int v0), some (.int v1), some (.int (remI v0 v1))] (dt dk_J9_floorMod_7cf53 3 rfl) rfl rfl rfl ?_
  refine e_iload_n (dt dk_J9_floorMod_7cf53 4 rfl) rfl ?_
  refine e_iload_n (dt dk_J9_floorMod_7cf53 5 rfl) rfl ?_
  refine e_ixor (dt dk_J9_floorMod_7cf53 6 rfl) ?_
  refine e_if_ge 18 (dt dk_J9_floorMod_7cf53 7 rfl) (by decide) (fun h1 => ?_) (fun h1 => ?_)
  · refine e_iload_n (dt dk_J9_floorMod_7cf53 14 rfl) rfl ?_
    exact e_iret (dt dk_J9_floorMod_7cf53 15 rfl) rfl rfl rfl
  · refine e_iload_n (dt dk_J9_floorMod_7cf53 8 rfl) rfl ?_
    refine e_if_eq 18 (dt dk_J9_floorMod_7cf53 9 rfl) (by decide) (fun h2 => ?_) (fun h2 => ?_)
    · refine e_iload_n (dt dk_J9_floorMod_7cf53 14 rfl) rfl ?_
      exact e_iret (dt dk_J9_floorMod_7cf53 15 rfl) rfl rfl rfl
    · refine e_iload_n (dt dk_J9_floorMod_7cf53 10 rfl) rfl ?_
      refine e_iload_n (dt dk_J9_floorMod_7cf53 11 rfl) rfl ?_
      refine e_iadd (dt dk_J9_floorMod_7cf53 12 rfl) ?_
      exact e_iret (dt dk_J9_floorMod_7cf53 13 rfl) rfl rfl rfl
-- X0_draw_17 (W, depth 1)
def f_X0_draw_17 (v1 : Int32) (M : Mem) : Option Mem :=
  ((f_J9_floorMod_7cf53 (v1 / (8 : Int32)) (8 : Int32))).bind fun r1 => if inb r1 8 then ((f_J9_floorMod_7cf53 v1 (8 : Int32))).bind fun r3 => ((f_J9_floorMod_7cf53 (v1 / (64 : Int32)) (8 : Int32))).bind fun r4 => (if (signF (ix r1)) = (33 : Int32) then (if (remI (v1 / (64 : Int32)) (4 : Int32)) = 0 then some (up2 (up2 (up2 M 17 0 (signF (ix r1))) 17 1 r3) 17 2 r4) else some (up2 (up2 (up2 (up2 M 17 0 (signF (ix r1))) 17 1 r3) 17 2 r4) 17 0 (0 : Int32))) else some (up2 (up2 (up2 M 17 0 (signF (ix r1))) 17 1 r3) 17 2 r4)) else none
set_option maxRecDepth 20000 in
set_option maxHeartbeats 2000000 in
theorem sp_X0_draw_17 (v1 : Int32) (M : Mem) : SpO wV yX0_draw cX0_draw 3 none 1 [.ref 17, .int v1] M (f_X0_draw_17 v1 M) := by
  refine sp_of (L := [some (.ref 17), some (.int v1), none]) rfl (by decide +kernel) rfl rfl ?_
  unfold f_X0_draw_17
  refine e_iload_n (dt dk_X0_draw 0 rfl) rfl ?_
  refine e_bipush (v := (64 : Int32)) (dt dk_X0_draw 1 rfl) (by decide) ?_
  refine e_idiv' (dt dk_X0_draw 2 rfl) (by decide) ?_
  show Ev _ _ _ _ _ _ 4 [some (.ref 17), some (.int v1), none] [.int (v1 / (64 : Int32))] M _
  refine e_istore_n [some (.ref 17), some (.int v1), some (.int (v1 / (64 : Int32)))] (dt dk_X0_draw 3 rfl) rfl rfl rfl ?_
  refine e_aload_n (dt dk_X0_draw 4 rfl) rfl ?_
  refine e_getsYN (dt dk_X0_draw 5 rfl) fn_X0_30 ?_
  refine e_iload_n (dt dk_X0_draw 6 rfl) rfl ?_
  refine e_bipush (v := (8 : Int32)) (dt dk_X0_draw 7 rfl) (by decide) ?_
  refine e_idiv' (dt dk_X0_draw 8 rfl) (by decide) ?_
  show Ev _ _ _ _ _ _ 13 [some (.ref 17), some (.int v1), some (.int (v1 / (64 : Int32)))] [.int (v1 / (8 : Int32)), .ref 76, .ref 17] M _
  refine e_getsYN (dt dk_X0_draw 9 rfl) fn_X0_30 ?_
  refine e_lenY (dt dk_X0_draw 10 rfl) ?_
  refine ev_call (ca_S ms_J9_floorMod_7cf53 (sp_J9_floorMod_7cf53 (v1 / (8 : Int32)) (8 : Int32) M) (dt dk_X0_draw 11 rfl) ml_X0_34 rfl rfl rfl (by decide) : Ca _ _ _ _ _ _ _ _ [.ref 76, .ref 17] _ _) (fun r1 hr1 => ?_)
  show Ev _ _ _ _ _ _ 20 [some (.ref 17), some (.int v1), some (.int (v1 / (64 : Int32)))] [.int r1, .ref 76, .ref 17] M _
  refine e_if (fun h2 => ?_)
  refine e_iaY' (dt dk_X0_draw 12 rfl) h2 ?_
  refine e_putI (ty := .int) ci_X0 (dt dk_X0_draw 13 rfl) rfl (by decide) rfl fl_X0_15 rfl (by decide +kernel) rfl rfl ?_
  refine e_aload_n (dt dk_X0_draw 14 rfl) rfl ?_
  refine e_iload_n (dt dk_X0_draw 15 rfl) rfl ?_
  refine e_bipush (v := (8 : Int32)) (dt dk_X0_draw 16 rfl) (by decide) ?_
  refine ev_call (ca_S ms_J9_floorMod_7cf53 (sp_J9_floorMod_7cf53 v1 (8 : Int32) (up2 M 17 0 (signF (ix r1)))) (dt dk_X0_draw 17 rfl) ml_X0_34 rfl rfl rfl (by decide) : Ca _ _ _ _ _ _ _ _ [.ref 17] _ _) (fun r3 hr3 => ?_)
  show Ev _ _ _ _ _ _ 31 [some (.ref 17), some (.int v1), some (.int (v1 / (64 : Int32)))] [.int r3, .ref 17] (up2 M 17 0 (signF (ix r1))) _
  refine e_putI (ty := .int) ci_X0 (dt dk_X0_draw 18 rfl) rfl (by decide) rfl fl_X0_21 rfl (by decide +kernel) rfl rfl ?_
  refine e_aload_n (dt dk_X0_draw 19 rfl) rfl ?_
  refine e_iload_n (dt dk_X0_draw 20 rfl) rfl ?_
  refine e_bipush (v := (8 : Int32)) (dt dk_X0_draw 21 rfl) (by decide) ?_
  refine ev_call (ca_S ms_J9_floorMod_7cf53 (sp_J9_floorMod_7cf53 (v1 / (64 : Int32)) (8 : Int32) (up2 (up2 M 17 0 (signF (ix r1))) 17 1 r3)) (dt dk_X0_draw 22 rfl) ml_X0_34 rfl rfl rfl (by decide) : Ca _ _ _ _ _ _ _ _ [.ref 17] _ _) (fun r4 hr4 => ?_)
  show Ev _ _ _ _ _ _ 41 [some (.ref 17), some (.int v1), some (.int (v1 / (64 : Int32)))] [.int r4, .ref 17] (up2 (up2 M 17 0 (signF (ix r1))) 17 1 r3) _
  refine e_putI (ty := .int) ci_X0 (dt dk_X0_draw 23 rfl) rfl (by decide) rfl fl_X0_24 rfl (by decide +kernel) rfl rfl ?_
  refine e_aload_n (dt dk_X0_draw 24 rfl) rfl ?_
  refine e_getI (v := (signF (ix r1))) ci_X0 (dt dk_X0_draw 25 rfl) rfl (by decide) rfl fl_X0_15 rfl ?_
  refine e_bipush (v := (33 : Int32)) (dt dk_X0_draw 26 rfl) (by decide) ?_
  refine e_icmp_ne 64 (dt dk_X0_draw 27 rfl) (by decide) (fun h5 => ?_) (fun h5 => ?_)
  · refine e_iload_n (dt dk_X0_draw 28 rfl) rfl ?_
    refine e_iconst (v := (4 : Int32)) (dt dk_X0_draw 29 rfl) (by decide) ?_
    refine e_irem' (dt dk_X0_draw 30 rfl) (by decide) ?_
    show Ev _ _ _ _ _ _ 56 [some (.ref 17), some (.int v1), some (.int (v1 / (64 : Int32)))] [.int (remI (v1 / (64 : Int32)) (4 : Int32))] (up2 (up2 (up2 M 17 0 (signF (ix r1))) 17 1 r3) 17 2 r4) _
    refine e_if_eq 64 (dt dk_X0_draw 31 rfl) (by decide) (fun h6 => ?_) (fun h6 => ?_)
    · exact e_vret (dt dk_X0_draw 35 rfl) rfl rfl
    · refine e_aload_n (dt dk_X0_draw 32 rfl) rfl ?_
      refine e_iconst (v := (0 : Int32)) (dt dk_X0_draw 33 rfl) (by decide) ?_
      refine e_putI (ty := .int) ci_X0 (dt dk_X0_draw 34 rfl) rfl (by decide) rfl fl_X0_15 rfl (by decide +kernel) rfl rfl ?_
      exact e_vret (dt dk_X0_draw 35 rfl) rfl rfl
  · exact e_vret (dt dk_X0_draw 35 rfl) rfl rfl
-- X8_become_34_1 (W, depth 1)
def f_X8_become_34_1  (M : Mem) : Option Mem :=
  some (up2 (up2 (up2 (upA (upA (upA (upA (upA M 35 (va_cpy (M 2) (M 35) 0 0 8)) 36 (va_cpy (M 3) (M 36) 0 0 8)) 37 (va_cpy (M 4) (M 37) 0 0 8)) 38 (va_cpy (M 5) (M 38) 0 0 8)) 39 (va_cpy (M 6) (M 39) 0 0 8)) 34 6 (M 1 6)) 34 7 (M 1 7)) 34 8 (M 1 8))
set_option maxRecDepth 20000 in
set_option maxHeartbeats 2000000 in
theorem sp_X8_become_34_1  (M : Mem) : SpO wV yX8_become cX8_become 2 none 1 [.ref 34, .ref 1] M (f_X8_become_34_1 M) := by
  refine sp_of (L := [some (.ref 34), some (.ref 1)]) rfl (by decide +kernel) rfl rfl ?_
  unfold f_X8_become_34_1
  refine e_aload_n (dt dk_X8_become 0 rfl) rfl ?_
  refine e_getR ci_X8 (dt dk_X8_become 1 rfl) rfl (by decide) rfl fl_X8_9 ?_
  refine e_iconst (v := (0 : Int32)) (dt dk_X8_become 2 rfl) (by decide) ?_
  refine e_aload_n (dt dk_X8_become 3 rfl) rfl ?_
  refine e_getR ci_X8 (dt dk_X8_become 4 rfl) rfl (by decide) rfl fl_X8_9 ?_
  refine e_iconst (v := (0 : Int32)) (dt dk_X8_become 5 rfl) (by decide) ?_
  refine e_bipush (v := (8 : Int32)) (dt dk_X8_become 6 rfl) (by decide) ?_
  refine e_copy ok_copy (dt dk_X8_become 7 rfl) ml_X8_34 rfl rfl (by decide) (by decide) (by decide) (by decide) (by decide) rfl (by decide) ?_
  show Ev _ _ _ _ _ _ 15 [some (.ref 34), some (.ref 1)] [] (upA M 35 (va_cpy (M 2) (M 35) 0 0 8)) _
  refine e_aload_n (dt dk_X8_become 8 rfl) rfl ?_
  refine e_getR ci_X8 (dt dk_X8_become 9 rfl) rfl (by decide) rfl fl_X8_15 ?_
  refine e_iconst (v := (0 : Int32)) (dt dk_X8_become 10 rfl) (by decide) ?_
  refine e_aload_n (dt dk_X8_become 11 rfl) rfl ?_
  refine e_getR ci_X8 (dt dk_X8_become 12 rfl) rfl (by decide) rfl fl_X8_15 ?_
  refine e_iconst (v := (0 : Int32)) (dt dk_X8_become 13 rfl) (by decide) ?_
  refine e_bipush (v := (8 : Int32)) (dt dk_X8_become 14 rfl) (by decide) ?_
  refine e_copy ok_copy (dt dk_X8_become 15 rfl) ml_X8_34 rfl rfl (by decide) (by decide) (by decide) (by decide) (by decide) rfl (by decide) ?_
  show Ev _ _ _ _ _ _ 30 [some (.ref 34), some (.ref 1)] [] (upA (upA M 35 (va_cpy (M 2) (M 35) 0 0 8)) 36 (va_cpy (M 3) (M 36) 0 0 8)) _
  refine e_aload_n (dt dk_X8_become 16 rfl) rfl ?_
  refine e_getR ci_X8 (dt dk_X8_become 17 rfl) rfl (by decide) rfl fl_X8_18 ?_
  refine e_iconst (v := (0 : Int32)) (dt dk_X8_become 18 rfl) (by decide) ?_
  refine e_aload_n (dt dk_X8_become 19 rfl) rfl ?_
  refine e_getR ci_X8 (dt dk_X8_become 20 rfl) rfl (by decide) rfl fl_X8_18 ?_
  refine e_iconst (v := (0 : Int32)) (dt dk_X8_become 21 rfl) (by decide) ?_
  refine e_bipush (v := (8 : Int32)) (dt dk_X8_become 22 rfl) (by decide) ?_
  refine e_copy ok_copy (dt dk_X8_become 23 rfl) ml_X8_34 rfl rfl (by decide) (by decide) (by decide) (by decide) (by decide) rfl (by decide) ?_
  show Ev _ _ _ _ _ _ 45 [some (.ref 34), some (.ref 1)] [] (upA (upA (upA M 35 (va_cpy (M 2) (M 35) 0 0 8)) 36 (va_cpy (M 3) (M 36) 0 0 8)) 37 (va_cpy (M 4) (M 37) 0 0 8)) _
  refine e_aload_n (dt dk_X8_become 24 rfl) rfl ?_
  refine e_getR ci_X8 (dt dk_X8_become 25 rfl) rfl (by decide) rfl fl_X8_21 ?_
  refine e_iconst (v := (0 : Int32)) (dt dk_X8_become 26 rfl) (by decide) ?_
  refine e_aload_n (dt dk_X8_become 27 rfl) rfl ?_
  refine e_getR ci_X8 (dt dk_X8_become 28 rfl) rfl (by decide) rfl fl_X8_21 ?_
  refine e_iconst (v := (0 : Int32)) (dt dk_X8_become 29 rfl) (by decide) ?_
  refine e_bipush (v := (8 : Int32)) (dt dk_X8_become 30 rfl) (by decide) ?_
  refine e_copy ok_copy (dt dk_X8_become 31 rfl) ml_X8_34 rfl rfl (by decide) (by decide) (by decide) (by decide) (by decide) rfl (by decide) ?_
  show Ev _ _ _ _ _ _ 60 [some (.ref 34), some (.ref 1)] [] (upA (upA (upA (upA M 35 (va_cpy (M 2) (M 35) 0 0 8)) 36 (va_cpy (M 3) (M 36) 0 0 8)) 37 (va_cpy (M 4) (M 37) 0 0 8)) 38 (va_cpy (M 5) (M 38) 0 0 8)) _
  refine e_aload_n (dt dk_X8_become 32 rfl) rfl ?_
  refine e_getR ci_X8 (dt dk_X8_become 33 rfl) rfl (by decide) rfl fl_X8_24 ?_
  refine e_iconst (v := (0 : Int32)) (dt dk_X8_become 34 rfl) (by decide) ?_
  refine e_aload_n (dt dk_X8_become 35 rfl) rfl ?_
  refine e_getR ci_X8 (dt dk_X8_become 36 rfl) rfl (by decide) rfl fl_X8_24 ?_
  refine e_iconst (v := (0 : Int32)) (dt dk_X8_become 37 rfl) (by decide) ?_
  refine e_bipush (v := (8 : Int32)) (dt dk_X8_become 38 rfl) (by decide) ?_
  refine e_copy ok_copy (dt dk_X8_become 39 rfl) ml_X8_34 rfl rfl (by decide) (by decide) (by decide) (by decide) (by decide) rfl (by decide) ?_
  show Ev _ _ _ _ _ _ 75 [some (.ref 34), some (.ref 1)] [] (upA (upA (upA (upA (upA M 35 (va_cpy (M 2) (M 35) 0 0 8)) 36 (va_cpy (M 3) (M 36) 0 0 8)) 37 (va_cpy (M 4) (M 37) 0 0 8)) 38 (va_cpy (M 5) (M 38) 0 0 8)) 39 (va_cpy (M 6) (M 39) 0 0 8)) _
  refine e_aload_n (dt dk_X8_become 40 rfl) rfl ?_
  refine e_aload_n (dt dk_X8_become 41 rfl) rfl ?_
  refine e_getI (v := (M 1 6)) ci_X8 (dt dk_X8_become 42 rfl) rfl (by decide) rfl fl_X8_30 rfl ?_
  refine e_putI (ty := .int) ci_X8 (dt dk_X8_become 43 rfl) rfl (by decide) rfl fl_X8_30 rfl (by decide +kernel) rfl rfl ?_
  refine e_aload_n (dt dk_X8_become 44 rfl) rfl ?_
  refine e_aload_n (dt dk_X8_become 45 rfl) rfl ?_
  refine e_getI (v := (M 1 7)) ci_X8 (dt dk_X8_become 46 rfl) rfl (by decide) rfl fl_X8_40 rfl ?_
  refine e_putI (ty := .int) ci_X8 (dt dk_X8_become 47 rfl) rfl (by decide) rfl fl_X8_40 rfl (by decide +kernel) rfl rfl ?_
  refine e_aload_n (dt dk_X8_become 48 rfl) rfl ?_
  refine e_aload_n (dt dk_X8_become 49 rfl) rfl ?_
  refine e_getI (v := (M 1 8)) ci_X8 (dt dk_X8_become 50 rfl) rfl (by decide) rfl fl_X8_43 rfl ?_
  refine e_putI (ty := .int) ci_X8 (dt dk_X8_become 51 rfl) rfl (by decide) rfl fl_X8_43 rfl (by decide +kernel) rfl rfl ?_
  exact e_vret (dt dk_X8_become 52 rfl) rfl rfl
-- X6_become_41_19 (W, depth 1)
def f_X6_become_41_19  (M : Mem) : Option Mem :=
  some (up2 (up2 (upA M 42 (va_cpy (M 20) (M 42) 0 0 41)) 41 1 (M 19 1)) 41 2 (M 19 2))
set_option maxRecDepth 20000 in
set_option maxHeartbeats 2000000 in
theorem sp_X6_become_41_19  (M : Mem) : SpO wV yX6_become cX6_become 2 none 1 [.ref 41, .ref 19] M (f_X6_become_41_19 M) := by
  refine sp_of (L := [some (.ref 41), some (.ref 19)]) rfl (by decide +kernel) rfl rfl ?_
  unfold f_X6_become_41_19
  refine e_aload_n (dt dk_X6_become 0 rfl) rfl ?_
  refine e_getR ci_X6 (dt dk_X6_become 1 rfl) rfl (by decide) rfl fl_X6_9 ?_
  refine e_iconst (v := (0 : Int32)) (dt dk_X6_become 2 rfl) (by decide) ?_
  refine e_aload_n (dt dk_X6_become 3 rfl) rfl ?_
  refine e_getR ci_X6 (dt dk_X6_become 4 rfl) rfl (by decide) rfl fl_X6_9 ?_
  refine e_iconst (v := (0 : Int32)) (dt dk_X6_become 5 rfl) (by decide) ?_
  refine e_bipush (v := (41 : Int32)) (dt dk_X6_become 6 rfl) (by decide) ?_
  refine e_copy ok_copy (dt dk_X6_become 7 rfl) ml_X6_28 rfl rfl (by decide) (by decide) (by decide) (by decide) (by decide) rfl (by decide) ?_
  show Ev _ _ _ _ _ _ 15 [some (.ref 41), some (.ref 19)] [] (upA M 42 (va_cpy (M 20) (M 42) 0 0 41)) _
  refine e_aload_n (dt dk_X6_become 8 rfl) rfl ?_
  refine e_aload_n (dt dk_X6_become 9 rfl) rfl ?_
  refine e_getI (v := (M 19 1)) ci_X6 (dt dk_X6_become 10 rfl) rfl (by decide) rfl fl_X6_25 rfl ?_
  refine e_putI (ty := .int) ci_X6 (dt dk_X6_become 11 rfl) rfl (by decide) rfl fl_X6_25 rfl (by decide +kernel) rfl rfl ?_
  refine e_aload_n (dt dk_X6_become 12 rfl) rfl ?_
  refine e_aload_n (dt dk_X6_become 13 rfl) rfl ?_
  refine e_getI (v := (M 19 2)) ci_X6 (dt dk_X6_become 14 rfl) rfl (by decide) rfl fl_X6_21 rfl ?_
  refine e_putI (ty := .int) ci_X6 (dt dk_X6_become 15 rfl) rfl (by decide) rfl fl_X6_21 rfl (by decide +kernel) rfl rfl ?_
  exact e_vret (dt dk_X6_become 16 rfl) rfl rfl
-- X6_become_51_19 (W, depth 1)
def f_X6_become_51_19  (M : Mem) : Option Mem :=
  some (up2 (up2 (upA M 52 (va_cpy (M 20) (M 52) 0 0 41)) 51 1 (M 19 1)) 51 2 (M 19 2))
set_option maxRecDepth 20000 in
set_option maxHeartbeats 2000000 in
theorem sp_X6_become_51_19  (M : Mem) : SpO wV yX6_become cX6_become 2 none 1 [.ref 51, .ref 19] M (f_X6_become_51_19 M) := by
  refine sp_of (L := [some (.ref 51), some (.ref 19)]) rfl (by decide +kernel) rfl rfl ?_
  unfold f_X6_become_51_19
  refine e_aload_n (dt dk_X6_become 0 rfl) rfl ?_
  refine e_getR ci_X6 (dt dk_X6_become 1 rfl) rfl (by decide) rfl fl_X6_9 ?_
  refine e_iconst (v := (0 : Int32)) (dt dk_X6_become 2 rfl) (by decide) ?_
  refine e_aload_n (dt dk_X6_become 3 rfl) rfl ?_
  refine e_getR ci_X6 (dt dk_X6_become 4 rfl) rfl (by decide) rfl fl_X6_9 ?_
  refine e_iconst (v := (0 : Int32)) (dt dk_X6_become 5 rfl) (by decide) ?_
  refine e_bipush (v := (41 : Int32)) (dt dk_X6_become 6 rfl) (by decide) ?_
  refine e_copy ok_copy (dt dk_X6_become 7 rfl) ml_X6_28 rfl rfl (by decide) (by decide) (by decide) (by decide) (by decide) rfl (by decide) ?_
  show Ev _ _ _ _ _ _ 15 [some (.ref 51), some (.ref 19)] [] (upA M 52 (va_cpy (M 20) (M 52) 0 0 41)) _
  refine e_aload_n (dt dk_X6_become 8 rfl) rfl ?_
  refine e_aload_n (dt dk_X6_become 9 rfl) rfl ?_
  refine e_getI (v := (M 19 1)) ci_X6 (dt dk_X6_become 10 rfl) rfl (by decide) rfl fl_X6_25 rfl ?_
  refine e_putI (ty := .int) ci_X6 (dt dk_X6_become 11 rfl) rfl (by decide) rfl fl_X6_25 rfl (by decide +kernel) rfl rfl ?_
  refine e_aload_n (dt dk_X6_become 12 rfl) rfl ?_
  refine e_aload_n (dt dk_X6_become 13 rfl) rfl ?_
  refine e_getI (v := (M 19 2)) ci_X6 (dt dk_X6_become 14 rfl) rfl (by decide) rfl fl_X6_21 rfl ?_
  refine e_putI (ty := .int) ci_X6 (dt dk_X6_become 15 rfl) rfl (by decide) rfl fl_X6_21 rfl (by decide +kernel) rfl rfl ?_
  exact e_vret (dt dk_X6_become 16 rfl) rfl rfl
-- X8_become_44_1 (W, depth 1)
def f_X8_become_44_1  (M : Mem) : Option Mem :=
  some (up2 (up2 (up2 (upA (upA (upA (upA (upA M 45 (va_cpy (M 2) (M 45) 0 0 8)) 46 (va_cpy (M 3) (M 46) 0 0 8)) 47 (va_cpy (M 4) (M 47) 0 0 8)) 48 (va_cpy (M 5) (M 48) 0 0 8)) 49 (va_cpy (M 6) (M 49) 0 0 8)) 44 6 (M 1 6)) 44 7 (M 1 7)) 44 8 (M 1 8))
set_option maxRecDepth 20000 in
set_option maxHeartbeats 2000000 in
theorem sp_X8_become_44_1  (M : Mem) : SpO wV yX8_become cX8_become 2 none 1 [.ref 44, .ref 1] M (f_X8_become_44_1 M) := by
  refine sp_of (L := [some (.ref 44), some (.ref 1)]) rfl (by decide +kernel) rfl rfl ?_
  unfold f_X8_become_44_1
  refine e_aload_n (dt dk_X8_become 0 rfl) rfl ?_
  refine e_getR ci_X8 (dt dk_X8_become 1 rfl) rfl (by decide) rfl fl_X8_9 ?_
  refine e_iconst (v := (0 : Int32)) (dt dk_X8_become 2 rfl) (by decide) ?_
  refine e_aload_n (dt dk_X8_become 3 rfl) rfl ?_
  refine e_getR ci_X8 (dt dk_X8_become 4 rfl) rfl (by decide) rfl fl_X8_9 ?_
  refine e_iconst (v := (0 : Int32)) (dt dk_X8_become 5 rfl) (by decide) ?_
  refine e_bipush (v := (8 : Int32)) (dt dk_X8_become 6 rfl) (by decide) ?_
  refine e_copy ok_copy (dt dk_X8_become 7 rfl) ml_X8_34 rfl rfl (by decide) (by decide) (by decide) (by decide) (by decide) rfl (by decide) ?_
  show Ev _ _ _ _ _ _ 15 [some (.ref 44), some (.ref 1)] [] (upA M 45 (va_cpy (M 2) (M 45) 0 0 8)) _
  refine e_aload_n (dt dk_X8_become 8 rfl) rfl ?_
  refine e_getR ci_X8 (dt dk_X8_become 9 rfl) rfl (by decide) rfl fl_X8_15 ?_
  refine e_iconst (v := (0 : Int32)) (dt dk_X8_become 10 rfl) (by decide) ?_
  refine e_aload_n (dt dk_X8_become 11 rfl) rfl ?_
  refine e_getR ci_X8 (dt dk_X8_become 12 rfl) rfl (by decide) rfl fl_X8_15 ?_
  refine e_iconst (v := (0 : Int32)) (dt dk_X8_become 13 rfl) (by decide) ?_
  refine e_bipush (v := (8 : Int32)) (dt dk_X8_become 14 rfl) (by decide) ?_
  refine e_copy ok_copy (dt dk_X8_become 15 rfl) ml_X8_34 rfl rfl (by decide) (by decide) (by decide) (by decide) (by decide) rfl (by decide) ?_
  show Ev _ _ _ _ _ _ 30 [some (.ref 44), some (.ref 1)] [] (upA (upA M 45 (va_cpy (M 2) (M 45) 0 0 8)) 46 (va_cpy (M 3) (M 46) 0 0 8)) _
  refine e_aload_n (dt dk_X8_become 16 rfl) rfl ?_
  refine e_getR ci_X8 (dt dk_X8_become 17 rfl) rfl (by decide) rfl fl_X8_18 ?_
  refine e_iconst (v := (0 : Int32)) (dt dk_X8_become 18 rfl) (by decide) ?_
  refine e_aload_n (dt dk_X8_become 19 rfl) rfl ?_
  refine e_getR ci_X8 (dt dk_X8_become 20 rfl) rfl (by decide) rfl fl_X8_18 ?_
  refine e_iconst (v := (0 : Int32)) (dt dk_X8_become 21 rfl) (by decide) ?_
  refine e_bipush (v := (8 : Int32)) (dt dk_X8_become 22 rfl) (by decide) ?_
  refine e_copy ok_copy (dt dk_X8_become 23 rfl) ml_X8_34 rfl rfl (by decide) (by decide) (by decide) (by decide) (by decide) rfl (by decide) ?_
  show Ev _ _ _ _ _ _ 45 [some (.ref 44), some (.ref 1)] [] (upA (upA (upA M 45 (va_cpy (M 2) (M 45) 0 0 8)) 46 (va_cpy (M 3) (M 46) 0 0 8)) 47 (va_cpy (M 4) (M 47) 0 0 8)) _
  refine e_aload_n (dt dk_X8_become 24 rfl) rfl ?_
  refine e_getR ci_X8 (dt dk_X8_become 25 rfl) rfl (by decide) rfl fl_X8_21 ?_
  refine e_iconst (v := (0 : Int32)) (dt dk_X8_become 26 rfl) (by decide) ?_
  refine e_aload_n (dt dk_X8_become 27 rfl) rfl ?_
  refine e_getR ci_X8 (dt dk_X8_become 28 rfl) rfl (by decide) rfl fl_X8_21 ?_
  refine e_iconst (v := (0 : Int32)) (dt dk_X8_become 29 rfl) (by decide) ?_
  refine e_bipush (v := (8 : Int32)) (dt dk_X8_become 30 rfl) (by decide) ?_
  refine e_copy ok_copy (dt dk_X8_become 31 rfl) ml_X8_34 rfl rfl (by decide) (by decide) (by decide) (by decide) (by decide) rfl (by decide) ?_
  show Ev _ _ _ _ _ _ 60 [some (.ref 44), some (.ref 1)] [] (upA (upA (upA (upA M 45 (va_cpy (M 2) (M 45) 0 0 8)) 46 (va_cpy (M 3) (M 46) 0 0 8)) 47 (va_cpy (M 4) (M 47) 0 0 8)) 48 (va_cpy (M 5) (M 48) 0 0 8)) _
  refine e_aload_n (dt dk_X8_become 32 rfl) rfl ?_
  refine e_getR ci_X8 (dt dk_X8_become 33 rfl) rfl (by decide) rfl fl_X8_24 ?_
  refine e_iconst (v := (0 : Int32)) (dt dk_X8_become 34 rfl) (by decide) ?_
  refine e_aload_n (dt dk_X8_become 35 rfl) rfl ?_
  refine e_getR ci_X8 (dt dk_X8_become 36 rfl) rfl (by decide) rfl fl_X8_24 ?_
  refine e_iconst (v := (0 : Int32)) (dt dk_X8_become 37 rfl) (by decide) ?_
  refine e_bipush (v := (8 : Int32)) (dt dk_X8_become 38 rfl) (by decide) ?_
  refine e_copy ok_copy (dt dk_X8_become 39 rfl) ml_X8_34 rfl rfl (by decide) (by decide) (by decide) (by decide) (by decide) rfl (by decide) ?_
  show Ev _ _ _ _ _ _ 75 [some (.ref 44), some (.ref 1)] [] (upA (upA (upA (upA (upA M 45 (va_cpy (M 2) (M 45) 0 0 8)) 46 (va_cpy (M 3) (M 46) 0 0 8)) 47 (va_cpy (M 4) (M 47) 0 0 8)) 48 (va_cpy (M 5) (M 48) 0 0 8)) 49 (va_cpy (M 6) (M 49) 0 0 8)) _
  refine e_aload_n (dt dk_X8_become 40 rfl) rfl ?_
  refine e_aload_n (dt dk_X8_become 41 rfl) rfl ?_
  refine e_getI (v := (M 1 6)) ci_X8 (dt dk_X8_become 42 rfl) rfl (by decide) rfl fl_X8_30 rfl ?_
  refine e_putI (ty := .int) ci_X8 (dt dk_X8_become 43 rfl) rfl (by decide) rfl fl_X8_30 rfl (by decide +kernel) rfl rfl ?_
  refine e_aload_n (dt dk_X8_become 44 rfl) rfl ?_
  refine e_aload_n (dt dk_X8_become 45 rfl) rfl ?_
  refine e_getI (v := (M 1 7)) ci_X8 (dt dk_X8_become 46 rfl) rfl (by decide) rfl fl_X8_40 rfl ?_
  refine e_putI (ty := .int) ci_X8 (dt dk_X8_become 47 rfl) rfl (by decide) rfl fl_X8_40 rfl (by decide +kernel) rfl rfl ?_
  refine e_aload_n (dt dk_X8_become 48 rfl) rfl ?_
  refine e_aload_n (dt dk_X8_become 49 rfl) rfl ?_
  refine e_getI (v := (M 1 8)) ci_X8 (dt dk_X8_become 50 rfl) rfl (by decide) rfl fl_X8_43 rfl ?_
  refine e_putI (ty := .int) ci_X8 (dt dk_X8_become 51 rfl) rfl (by decide) rfl fl_X8_43 rfl (by decide +kernel) rfl rfl ?_
  exact e_vret (dt dk_X8_become 52 rfl) rfl rfl
-- X8_become_1_34 (W, depth 1)
def f_X8_become_1_34  (M : Mem) : Option Mem :=
  some (up2 (up2 (up2 (upA (upA (upA (upA (upA M 2 (va_cpy (M 35) (M 2) 0 0 8)) 3 (va_cpy (M 36) (M 3) 0 0 8)) 4 (va_cpy (M 37) (M 4) 0 0 8)) 5 (va_cpy (M 38) (M 5) 0 0 8)) 6 (va_cpy (M 39) (M 6) 0 0 8)) 1 6 (M 34 6)) 1 7 (M 34 7)) 1 8 (M 34 8))
set_option maxRecDepth 20000 in
set_option maxHeartbeats 2000000 in
theorem sp_X8_become_1_34  (M : Mem) : SpO wV yX8_become cX8_become 2 none 1 [.ref 1, .ref 34] M (f_X8_become_1_34 M) := by
  refine sp_of (L := [some (.ref 1), some (.ref 34)]) rfl (by decide +kernel) rfl rfl ?_
  unfold f_X8_become_1_34
  refine e_aload_n (dt dk_X8_become 0 rfl) rfl ?_
  refine e_getR ci_X8 (dt dk_X8_become 1 rfl) rfl (by decide) rfl fl_X8_9 ?_
  refine e_iconst (v := (0 : Int32)) (dt dk_X8_become 2 rfl) (by decide) ?_
  refine e_aload_n (dt dk_X8_become 3 rfl) rfl ?_
  refine e_getR ci_X8 (dt dk_X8_become 4 rfl) rfl (by decide) rfl fl_X8_9 ?_
  refine e_iconst (v := (0 : Int32)) (dt dk_X8_become 5 rfl) (by decide) ?_
  refine e_bipush (v := (8 : Int32)) (dt dk_X8_become 6 rfl) (by decide) ?_
  refine e_copy ok_copy (dt dk_X8_become 7 rfl) ml_X8_34 rfl rfl (by decide) (by decide) (by decide) (by decide) (by decide) rfl (by decide) ?_
  show Ev _ _ _ _ _ _ 15 [some (.ref 1), some (.ref 34)] [] (upA M 2 (va_cpy (M 35) (M 2) 0 0 8)) _
  refine e_aload_n (dt dk_X8_become 8 rfl) rfl ?_
  refine e_getR ci_X8 (dt dk_X8_become 9 rfl) rfl (by decide) rfl fl_X8_15 ?_
  refine e_iconst (v := (0 : Int32)) (dt dk_X8_become 10 rfl) (by decide) ?_
  refine e_aload_n (dt dk_X8_become 11 rfl) rfl ?_
  refine e_getR ci_X8 (dt dk_X8_become 12 rfl) rfl (by decide) rfl fl_X8_15 ?_
  refine e_iconst (v := (0 : Int32)) (dt dk_X8_become 13 rfl) (by decide) ?_
  refine e_bipush (v := (8 : Int32)) (dt dk_X8_become 14 rfl) (by decide) ?_
  refine e_copy ok_copy (dt dk_X8_become 15 rfl) ml_X8_34 rfl rfl (by decide) (by decide) (by decide) (by decide) (by decide) rfl (by decide) ?_
  show Ev _ _ _ _ _ _ 30 [some (.ref 1), some (.ref 34)] [] (upA (upA M 2 (va_cpy (M 35) (M 2) 0 0 8)) 3 (va_cpy (M 36) (M 3) 0 0 8)) _
  refine e_aload_n (dt dk_X8_become 16 rfl) rfl ?_
  refine e_getR ci_X8 (dt dk_X8_become 17 rfl) rfl (by decide) rfl fl_X8_18 ?_
  refine e_iconst (v := (0 : Int32)) (dt dk_X8_become 18 rfl) (by decide) ?_
  refine e_aload_n (dt dk_X8_become 19 rfl) rfl ?_
  refine e_getR ci_X8 (dt dk_X8_become 20 rfl) rfl (by decide) rfl fl_X8_18 ?_
  refine e_iconst (v := (0 : Int32)) (dt dk_X8_become 21 rfl) (by decide) ?_
  refine e_bipush (v := (8 : Int32)) (dt dk_X8_become 22 rfl) (by decide) ?_
  refine e_copy ok_copy (dt dk_X8_become 23 rfl) ml_X8_34 rfl rfl (by decide) (by decide) (by decide) (by decide) (by decide) rfl (by decide) ?_
  show Ev _ _ _ _ _ _ 45 [some (.ref 1), some (.ref 34)] [] (upA (upA (upA M 2 (va_cpy (M 35) (M 2) 0 0 8)) 3 (va_cpy (M 36) (M 3) 0 0 8)) 4 (va_cpy (M 37) (M 4) 0 0 8)) _
  refine e_aload_n (dt dk_X8_become 24 rfl) rfl ?_
  refine e_getR ci_X8 (dt dk_X8_become 25 rfl) rfl (by decide) rfl fl_X8_21 ?_
  refine e_iconst (v := (0 : Int32)) (dt dk_X8_become 26 rfl) (by decide) ?_
  refine e_aload_n (dt dk_X8_become 27 rfl) rfl ?_
  refine e_getR ci_X8 (dt dk_X8_become 28 rfl) rfl (by decide) rfl fl_X8_21 ?_
  refine e_iconst (v := (0 : Int32)) (dt dk_X8_become 29 rfl) (by decide) ?_
  refine e_bipush (v := (8 : Int32)) (dt dk_X8_become 30 rfl) (by decide) ?_
  refine e_copy ok_copy (dt dk_X8_become 31 rfl) ml_X8_34 rfl rfl (by decide) (by decide) (by decide) (by decide) (by decide) rfl (by decide) ?_
  show Ev _ _ _ _ _ _ 60 [some (.ref 1), some (.ref 34)] [] (upA (upA (upA (upA M 2 (va_cpy (M 35) (M 2) 0 0 8)) 3 (va_cpy (M 36) (M 3) 0 0 8)) 4 (va_cpy (M 37) (M 4) 0 0 8)) 5 (va_cpy (M 38) (M 5) 0 0 8)) _
  refine e_aload_n (dt dk_X8_become 32 rfl) rfl ?_
  refine e_getR ci_X8 (dt dk_X8_become 33 rfl) rfl (by decide) rfl fl_X8_24 ?_
  refine e_iconst (v := (0 : Int32)) (dt dk_X8_become 34 rfl) (by decide) ?_
  refine e_aload_n (dt dk_X8_become 35 rfl) rfl ?_
  refine e_getR ci_X8 (dt dk_X8_become 36 rfl) rfl (by decide) rfl fl_X8_24 ?_
  refine e_iconst (v := (0 : Int32)) (dt dk_X8_become 37 rfl) (by decide) ?_
  refine e_bipush (v := (8 : Int32)) (dt dk_X8_become 38 rfl) (by decide) ?_
  refine e_copy ok_copy (dt dk_X8_become 39 rfl) ml_X8_34 rfl rfl (by decide) (by decide) (by decide) (by decide) (by decide) rfl (by decide) ?_
  show Ev _ _ _ _ _ _ 75 [some (.ref 1), some (.ref 34)] [] (upA (upA (upA (upA (upA M 2 (va_cpy (M 35) (M 2) 0 0 8)) 3 (va_cpy (M 36) (M 3) 0 0 8)) 4 (va_cpy (M 37) (M 4) 0 0 8)) 5 (va_cpy (M 38) (M 5) 0 0 8)) 6 (va_cpy (M 39) (M 6) 0 0 8)) _
  refine e_aload_n (dt dk_X8_become 40 rfl) rfl ?_
  refine e_aload_n (dt dk_X8_become 41 rfl) rfl ?_
  refine e_getI (v := (M 34 6)) ci_X8 (dt dk_X8_become 42 rfl) rfl (by decide) rfl fl_X8_30 rfl ?_
  refine e_putI (ty := .int) ci_X8 (dt dk_X8_become 43 rfl) rfl (by decide) rfl fl_X8_30 rfl (by decide +kernel) rfl rfl ?_
  refine e_aload_n (dt dk_X8_become 44 rfl) rfl ?_
  refine e_aload_n (dt dk_X8_become 45 rfl) rfl ?_
  refine e_getI (v := (M 34 7)) ci_X8 (dt dk_X8_become 46 rfl) rfl (by decide) rfl fl_X8_40 rfl ?_
  refine e_putI (ty := .int) ci_X8 (dt dk_X8_become 47 rfl) rfl (by decide) rfl fl_X8_40 rfl (by decide +kernel) rfl rfl ?_
  refine e_aload_n (dt dk_X8_become 48 rfl) rfl ?_
  refine e_aload_n (dt dk_X8_become 49 rfl) rfl ?_
  refine e_getI (v := (M 34 8)) ci_X8 (dt dk_X8_become 50 rfl) rfl (by decide) rfl fl_X8_43 rfl ?_
  refine e_putI (ty := .int) ci_X8 (dt dk_X8_become 51 rfl) rfl (by decide) rfl fl_X8_43 rfl (by decide +kernel) rfl rfl ?_
  exact e_vret (dt dk_X8_become 52 rfl) rfl rfl
-- X6_become_19_41 (W, depth 1)
def f_X6_become_19_41  (M : Mem) : Option Mem :=
  some (up2 (up2 (upA M 20 (va_cpy (M 42) (M 20) 0 0 41)) 19 1 (M 41 1)) 19 2 (M 41 2))
set_option maxRecDepth 20000 in
set_option maxHeartbeats 2000000 in
theorem sp_X6_become_19_41  (M : Mem) : SpO wV yX6_become cX6_become 2 none 1 [.ref 19, .ref 41] M (f_X6_become_19_41 M) := by
  refine sp_of (L := [some (.ref 19), some (.ref 41)]) rfl (by decide +kernel) rfl rfl ?_
  unfold f_X6_become_19_41
  refine e_aload_n (dt dk_X6_become 0 rfl) rfl ?_
  refine e_getR ci_X6 (dt dk_X6_become 1 rfl) rfl (by decide) rfl fl_X6_9 ?_
  refine e_iconst (v := (0 : Int32)) (dt dk_X6_become 2 rfl) (by decide) ?_
  refine e_aload_n (dt dk_X6_become 3 rfl) rfl ?_
  refine e_getR ci_X6 (dt dk_X6_become 4 rfl) rfl (by decide) rfl fl_X6_9 ?_
  refine e_iconst (v := (0 : Int32)) (dt dk_X6_become 5 rfl) (by decide) ?_
  refine e_bipush (v := (41 : Int32)) (dt dk_X6_become 6 rfl) (by decide) ?_
  refine e_copy ok_copy (dt dk_X6_become 7 rfl) ml_X6_28 rfl rfl (by decide) (by decide) (by decide) (by decide) (by decide) rfl (by decide) ?_
  show Ev _ _ _ _ _ _ 15 [some (.ref 19), some (.ref 41)] [] (upA M 20 (va_cpy (M 42) (M 20) 0 0 41)) _
  refine e_aload_n (dt dk_X6_become 8 rfl) rfl ?_
  refine e_aload_n (dt dk_X6_become 9 rfl) rfl ?_
  refine e_getI (v := (M 41 1)) ci_X6 (dt dk_X6_become 10 rfl) rfl (by decide) rfl fl_X6_25 rfl ?_
  refine e_putI (ty := .int) ci_X6 (dt dk_X6_become 11 rfl) rfl (by decide) rfl fl_X6_25 rfl (by decide +kernel) rfl rfl ?_
  refine e_aload_n (dt dk_X6_become 12 rfl) rfl ?_
  refine e_aload_n (dt dk_X6_become 13 rfl) rfl ?_
  refine e_getI (v := (M 41 2)) ci_X6 (dt dk_X6_become 14 rfl) rfl (by decide) rfl fl_X6_21 rfl ?_
  refine e_putI (ty := .int) ci_X6 (dt dk_X6_become 15 rfl) rfl (by decide) rfl fl_X6_21 rfl (by decide +kernel) rfl rfl ?_
  exact e_vret (dt dk_X6_become 16 rfl) rfl rfl
-- X6_become_19_51 (W, depth 1)
def f_X6_become_19_51  (M : Mem) : Option Mem :=
  some (up2 (up2 (upA M 20 (va_cpy (M 52) (M 20) 0 0 41)) 19 1 (M 51 1)) 19 2 (M 51 2))
set_option maxRecDepth 20000 in
set_option maxHeartbeats 2000000 in
theorem sp_X6_become_19_51  (M : Mem) : SpO wV yX6_become cX6_become 2 none 1 [.ref 19, .ref 51] M (f_X6_become_19_51 M) := by
  refine sp_of (L := [some (.ref 19), some (.ref 51)]) rfl (by decide +kernel) rfl rfl ?_
  unfold f_X6_become_19_51
  refine e_aload_n (dt dk_X6_become 0 rfl) rfl ?_
  refine e_getR ci_X6 (dt dk_X6_become 1 rfl) rfl (by decide) rfl fl_X6_9 ?_
  refine e_iconst (v := (0 : Int32)) (dt dk_X6_become 2 rfl) (by decide) ?_
  refine e_aload_n (dt dk_X6_become 3 rfl) rfl ?_
  refine e_getR ci_X6 (dt dk_X6_become 4 rfl) rfl (by decide) rfl fl_X6_9 ?_
  refine e_iconst (v := (0 : Int32)) (dt dk_X6_become 5 rfl) (by decide) ?_
  refine e_bipush (v := (41 : Int32)) (dt dk_X6_become 6 rfl) (by decide) ?_
  refine e_copy ok_copy (dt dk_X6_become 7 rfl) ml_X6_28 rfl rfl (by decide) (by decide) (by decide) (by decide) (by decide) rfl (by decide) ?_
  show Ev _ _ _ _ _ _ 15 [some (.ref 19), some (.ref 51)] [] (upA M 20 (va_cpy (M 52) (M 20) 0 0 41)) _
  refine e_aload_n (dt dk_X6_become 8 rfl) rfl ?_
  refine e_aload_n (dt dk_X6_become 9 rfl) rfl ?_
  refine e_getI (v := (M 51 1)) ci_X6 (dt dk_X6_become 10 rfl) rfl (by decide) rfl fl_X6_25 rfl ?_
  refine e_putI (ty := .int) ci_X6 (dt dk_X6_become 11 rfl) rfl (by decide) rfl fl_X6_25 rfl (by decide +kernel) rfl rfl ?_
  refine e_aload_n (dt dk_X6_become 12 rfl) rfl ?_
  refine e_aload_n (dt dk_X6_become 13 rfl) rfl ?_
  refine e_getI (v := (M 51 2)) ci_X6 (dt dk_X6_become 14 rfl) rfl (by decide) rfl fl_X6_21 rfl ?_
  refine e_putI (ty := .int) ci_X6 (dt dk_X6_become 15 rfl) rfl (by decide) rfl fl_X6_21 rfl (by decide +kernel) rfl rfl ?_
  exact e_vret (dt dk_X6_become 16 rfl) rfl rfl
-- X8_become_1_44 (W, depth 1)
def f_X8_become_1_44  (M : Mem) : Option Mem :=
  some (up2 (up2 (up2 (upA (upA (upA (upA (upA M 2 (va_cpy (M 45) (M 2) 0 0 8)) 3 (va_cpy (M 46) (M 3) 0 0 8)) 4 (va_cpy (M 47) (M 4) 0 0 8)) 5 (va_cpy (M 48) (M 5) 0 0 8)) 6 (va_cpy (M 49) (M 6) 0 0 8)) 1 6 (M 44 6)) 1 7 (M 44 7)) 1 8 (M 44 8))
set_option maxRecDepth 20000 in
set_option maxHeartbeats 2000000 in
theorem sp_X8_become_1_44  (M : Mem) : SpO wV yX8_become cX8_become 2 none 1 [.ref 1, .ref 44] M (f_X8_become_1_44 M) := by
  refine sp_of (L := [some (.ref 1), some (.ref 44)]) rfl (by decide +kernel) rfl rfl ?_
  unfold f_X8_become_1_44
  refine e_aload_n (dt dk_X8_become 0 rfl) rfl ?_
  refine e_getR ci_X8 (dt dk_X8_become 1 rfl) rfl (by decide) rfl fl_X8_9 ?_
  refine e_iconst (v := (0 : Int32)) (dt dk_X8_become 2 rfl) (by decide) ?_
  refine e_aload_n (dt dk_X8_become 3 rfl) rfl ?_
  refine e_getR ci_X8 (dt dk_X8_become 4 rfl) rfl (by decide) rfl fl_X8_9 ?_
  refine e_iconst (v := (0 : Int32)) (dt dk_X8_become 5 rfl) (by decide) ?_
  refine e_bipush (v := (8 : Int32)) (dt dk_X8_become 6 rfl) (by decide) ?_
  refine e_copy ok_copy (dt dk_X8_become 7 rfl) ml_X8_34 rfl rfl (by decide) (by decide) (by decide) (by decide) (by decide) rfl (by decide) ?_
  show Ev _ _ _ _ _ _ 15 [some (.ref 1), some (.ref 44)] [] (upA M 2 (va_cpy (M 45) (M 2) 0 0 8)) _
  refine e_aload_n (dt dk_X8_become 8 rfl) rfl ?_
  refine e_getR ci_X8 (dt dk_X8_become 9 rfl) rfl (by decide) rfl fl_X8_15 ?_
  refine e_iconst (v := (0 : Int32)) (dt dk_X8_become 10 rfl) (by decide) ?_
  refine e_aload_n (dt dk_X8_become 11 rfl) rfl ?_
  refine e_getR ci_X8 (dt dk_X8_become 12 rfl) rfl (by decide) rfl fl_X8_15 ?_
  refine e_iconst (v := (0 : Int32)) (dt dk_X8_become 13 rfl) (by decide) ?_
  refine e_bipush (v := (8 : Int32)) (dt dk_X8_become 14 rfl) (by decide) ?_
  refine e_copy ok_copy (dt dk_X8_become 15 rfl) ml_X8_34 rfl rfl (by decide) (by decide) (by decide) (by decide) (by decide) rfl (by decide) ?_
  show Ev _ _ _ _ _ _ 30 [some (.ref 1), some (.ref 44)] [] (upA (upA M 2 (va_cpy (M 45) (M 2) 0 0 8)) 3 (va_cpy (M 46) (M 3) 0 0 8)) _
  refine e_aload_n (dt dk_X8_become 16 rfl) rfl ?_
  refine e_getR ci_X8 (dt dk_X8_become 17 rfl) rfl (by decide) rfl fl_X8_18 ?_
  refine e_iconst (v := (0 : Int32)) (dt dk_X8_become 18 rfl) (by decide) ?_
  refine e_aload_n (dt dk_X8_become 19 rfl) rfl ?_
  refine e_getR ci_X8 (dt dk_X8_become 20 rfl) rfl (by decide) rfl fl_X8_18 ?_
  refine e_iconst (v := (0 : Int32)) (dt dk_X8_become 21 rfl) (by decide) ?_
  refine e_bipush (v := (8 : Int32)) (dt dk_X8_become 22 rfl) (by decide) ?_
  refine e_copy ok_copy (dt dk_X8_become 23 rfl) ml_X8_34 rfl rfl (by decide) (by decide) (by decide) (by decide) (by decide) rfl (by decide) ?_
  show Ev _ _ _ _ _ _ 45 [some (.ref 1), some (.ref 44)] [] (upA (upA (upA M 2 (va_cpy (M 45) (M 2) 0 0 8)) 3 (va_cpy (M 46) (M 3) 0 0 8)) 4 (va_cpy (M 47) (M 4) 0 0 8)) _
  refine e_aload_n (dt dk_X8_become 24 rfl) rfl ?_
  refine e_getR ci_X8 (dt dk_X8_become 25 rfl) rfl (by decide) rfl fl_X8_21 ?_
  refine e_iconst (v := (0 : Int32)) (dt dk_X8_become 26 rfl) (by decide) ?_
  refine e_aload_n (dt dk_X8_become 27 rfl) rfl ?_
  refine e_getR ci_X8 (dt dk_X8_become 28 rfl) rfl (by decide) rfl fl_X8_21 ?_
  refine e_iconst (v := (0 : Int32)) (dt dk_X8_become 29 rfl) (by decide) ?_
  refine e_bipush (v := (8 : Int32)) (dt dk_X8_become 30 rfl) (by decide) ?_
  refine e_copy ok_copy (dt dk_X8_become 31 rfl) ml_X8_34 rfl rfl (by decide) (by decide) (by decide) (by decide) (by decide) rfl (by decide) ?_
  show Ev _ _ _ _ _ _ 60 [some (.ref 1), some (.ref 44)] [] (upA (upA (upA (upA M 2 (va_cpy (M 45) (M 2) 0 0 8)) 3 (va_cpy (M 46) (M 3) 0 0 8)) 4 (va_cpy (M 47) (M 4) 0 0 8)) 5 (va_cpy (M 48) (M 5) 0 0 8)) _
  refine e_aload_n (dt dk_X8_become 32 rfl) rfl ?_
  refine e_getR ci_X8 (dt dk_X8_become 33 rfl) rfl (by decide) rfl fl_X8_24 ?_
  refine e_iconst (v := (0 : Int32)) (dt dk_X8_become 34 rfl) (by decide) ?_
  refine e_aload_n (dt dk_X8_become 35 rfl) rfl ?_
  refine e_getR ci_X8 (dt dk_X8_become 36 rfl) rfl (by decide) rfl fl_X8_24 ?_
  refine e_iconst (v := (0 : Int32)) (dt dk_X8_become 37 rfl) (by decide) ?_
  refine e_bipush (v := (8 : Int32)) (dt dk_X8_become 38 rfl) (by decide) ?_
  refine e_copy ok_copy (dt dk_X8_become 39 rfl) ml_X8_34 rfl rfl (by decide) (by decide) (by decide) (by decide) (by decide) rfl (by decide) ?_
  show Ev _ _ _ _ _ _ 75 [some (.ref 1), some (.ref 44)] [] (upA (upA (upA (upA (upA M 2 (va_cpy (M 45) (M 2) 0 0 8)) 3 (va_cpy (M 46) (M 3) 0 0 8)) 4 (va_cpy (M 47) (M 4) 0 0 8)) 5 (va_cpy (M 48) (M 5) 0 0 8)) 6 (va_cpy (M 49) (M 6) 0 0 8)) _
  refine e_aload_n (dt dk_X8_become 40 rfl) rfl ?_
  refine e_aload_n (dt dk_X8_become 41 rfl) rfl ?_
  refine e_getI (v := (M 44 6)) ci_X8 (dt dk_X8_become 42 rfl) rfl (by decide) rfl fl_X8_30 rfl ?_
  refine e_putI (ty := .int) ci_X8 (dt dk_X8_become 43 rfl) rfl (by decide) rfl fl_X8_30 rfl (by decide +kernel) rfl rfl ?_
  refine e_aload_n (dt dk_X8_become 44 rfl) rfl ?_
  refine e_aload_n (dt dk_X8_become 45 rfl) rfl ?_
  refine e_getI (v := (M 44 7)) ci_X8 (dt dk_X8_become 46 rfl) rfl (by decide) rfl fl_X8_40 rfl ?_
  refine e_putI (ty := .int) ci_X8 (dt dk_X8_become 47 rfl) rfl (by decide) rfl fl_X8_40 rfl (by decide +kernel) rfl rfl ?_
  refine e_aload_n (dt dk_X8_become 48 rfl) rfl ?_
  refine e_aload_n (dt dk_X8_become 49 rfl) rfl ?_
  refine e_getI (v := (M 44 8)) ci_X8 (dt dk_X8_become 50 rfl) rfl (by decide) rfl fl_X8_43 rfl ?_
  refine e_putI (ty := .int) ci_X8 (dt dk_X8_become 51 rfl) rfl (by decide) rfl fl_X8_43 rfl (by decide +kernel) rfl rfl ?_
  exact e_vret (dt dk_X8_become 52 rfl) rfl rfl
-- X8_clearHouses_1 (R, depth 0)
def bd_X8_clearHouses_1_4 (M : Mem)  (K4 : Int32 → Int32 → Option Int32) (v1 : Int32) (v2 : Int32) : Option Int32 :=
  (if (8 : Int32) ≤ v2 then some v1 else if inb v2 8 then (if (M 2 (ix v2)) = 0 then (K4 (v1 ||| ((1 : Int32) <<< (v2 &&& 31))) (v2 + (1 : Int32))) else (K4 v1 (v2 + (1 : Int32)))) else none)
set_option maxRecDepth 20000 in
set_option maxHeartbeats 2000000 in
theorem ev_bd_X8_clearHouses_1_4 (M : Mem)  (K4 : Int32 → Int32 → Option Int32)  (hK4 : ∀ (v1 : Int32) (v2 : Int32), Ev none (wR M) RX8 cX8_clearHouses (some .int) 0 4 [some (.ref 1), some (.int v1), some (.int v2)] [] M (K4 v1 v2)) (v1 : Int32) (v2 : Int32) : Ev none (wR M) RX8 cX8_clearHouses (some .int) 0 4 [some (.ref 1), some (.int v1), some (.int v2)] [] M (bd_X8_clearHouses_1_4 M K4 v1 v2) := by
  unfold bd_X8_clearHouses_1_4
  refine e_iload_n (dt dk_X8_clearHouses 4 rfl) rfl ?_
  refine e_bipush (v := (8 : Int32)) (dt dk_X8_clearHouses 5 rfl) (by decide) ?_
  refine e_icmp_ge 31 (dt dk_X8_clearHouses 6 rfl) (by decide) (fun h1 => ?_) (fun h1 => ?_)
  · refine e_iload_n (dt dk_X8_clearHouses 20 rfl) rfl ?_
    exact e_iret (dt dk_X8_clearHouses 21 rfl) rfl rfl rfl
  · refine e_aload_n (dt dk_X8_clearHouses 7 rfl) rfl ?_
    refine e_getR ci_X8 (dt dk_X8_clearHouses 8 rfl) rfl (by decide) rfl fl_X8_9 ?_
    refine e_iload_n (dt dk_X8_clearHouses 9 rfl) rfl ?_
    refine e_if (fun h2 => ?_)
    refine e_iald' (v := (M 2 (ix v2))) (dt dk_X8_clearHouses 10 rfl) rfl h2 rfl ?_
    refine e_if_ne 25 (dt dk_X8_clearHouses 11 rfl) (by decide) (fun h3 => ?_) (fun h3 => ?_)
    · refine e_iload_n (dt dk_X8_clearHouses 12 rfl) rfl ?_
      refine e_iconst (v := (1 : Int32)) (dt dk_X8_clearHouses 13 rfl) (by decide) ?_
      refine e_iload_n (dt dk_X8_clearHouses 14 rfl) rfl ?_
      refine e_ishl (dt dk_X8_clearHouses 15 rfl) ?_
      refine e_ior (dt dk_X8_clearHouses 16 rfl) ?_
      refine e_istore_n [some (.ref 1), some (.int (v1 ||| ((1 : Int32) <<< (v2 &&& 31)))), some (.int v2)] (dt dk_X8_clearHouses 17 rfl) rfl rfl rfl ?_
      refine e_iinc [some (.ref 1), some (.int (v1 ||| ((1 : Int32) <<< (v2 &&& 31)))), some (.int (v2 + (1 : Int32)))] (dt dk_X8_clearHouses 18 rfl) rfl rfl rfl rfl ?_
      refine e_goto 4 (dt dk_X8_clearHouses 19 rfl) (by decide) ?_
      exact e_forget [true, true, true] [some (.ref 1), some (.int (v1 ||| ((1 : Int32) <<< (v2 &&& 31)))), some (.int (v2 + (1 : Int32)))] ⟨rfl, rfl⟩ (hK4 (v1 ||| ((1 : Int32) <<< (v2 &&& 31))) (v2 + (1 : Int32)))
    · refine e_iinc [some (.ref 1), some (.int v1), some (.int (v2 + (1 : Int32)))] (dt dk_X8_clearHouses 18 rfl) rfl rfl rfl rfl ?_
      refine e_goto 4 (dt dk_X8_clearHouses 19 rfl) (by decide) ?_
      exact e_forget [true, true, true] [some (.ref 1), some (.int v1), some (.int (v2 + (1 : Int32)))] ⟨rfl, rfl⟩ (hK4 v1 (v2 + (1 : Int32)))
def lp_X8_clearHouses_1_4 (M : Mem)  : Nat → Int32 → Int32 → Option Int32
  | 0 => fun _ _ => none
  | n + 1 => bd_X8_clearHouses_1_4 M (lp_X8_clearHouses_1_4 M n)
theorem ev_lp_X8_clearHouses_1_4 (M : Mem)   : ∀ (n : Nat), ∀ (v1 : Int32) (v2 : Int32), Ev none (wR M) RX8 cX8_clearHouses (some .int) 0 4 [some (.ref 1), some (.int v1), some (.int v2)] [] M (lp_X8_clearHouses_1_4 M n v1 v2)
  | 0 => fun _ _ => e_none
  | n + 1 => ev_bd_X8_clearHouses_1_4 M (lp_X8_clearHouses_1_4 M n) (ev_lp_X8_clearHouses_1_4 M n)
def f_X8_clearHouses_1  (M : Mem) : Option Int32 :=
  (lp_X8_clearHouses_1_4 M FU (0 : Int32) (0 : Int32))
set_option maxRecDepth 20000 in
set_option maxHeartbeats 2000000 in
theorem sp_X8_clearHouses_1  (M : Mem) : SpO (wR M) yX8_clearHouses cX8_clearHouses 3 (some .int) 0 [.ref 1] M (f_X8_clearHouses_1 M) := by
  refine sp_of (L := [some (.ref 1), none, none]) rfl (by decide +kernel) rfl rfl ?_
  unfold f_X8_clearHouses_1
  refine e_iconst (v := (0 : Int32)) (dt dk_X8_clearHouses 0 rfl) (by decide) ?_
  refine e_istore_n [some (.ref 1), some (.int (0 : Int32)), none] (dt dk_X8_clearHouses 1 rfl) rfl rfl rfl ?_
  refine e_iconst (v := (0 : Int32)) (dt dk_X8_clearHouses 2 rfl) (by decide) ?_
  refine e_istore_n [some (.ref 1), some (.int (0 : Int32)), some (.int (0 : Int32))] (dt dk_X8_clearHouses 3 rfl) rfl rfl rfl ?_
  exact e_forget [true, true, true] [some (.ref 1), some (.int (0 : Int32)), some (.int (0 : Int32))] ⟨rfl, rfl⟩ (ev_lp_X8_clearHouses_1_4 M FU (0 : Int32) (0 : Int32))
-- X8_ofHouse_1 (R, depth 1)
def f_X8_ofHouse_1 (v1 : Int32) (v2 : Int32) (M : Mem) : Option Int32 :=
  (if (f_X9_isHouse v1) = 0 then some (-1 : Int32) else (if v2 = (0 : Int32) then if inb v1 8 then some (M 2 (ix v1)) else none else if v2 = (1 : Int32) then if inb v1 8 then some (M 3 (ix v1)) else none else if v2 = (2 : Int32) then if inb v1 8 then some (M 4 (ix v1)) else none else if inb v1 8 then some (M 5 (ix v1)) else none))
set_option maxRecDepth 20000 in
set_option maxHeartbeats 2000000 in
theorem sp_X8_ofHouse_1 (v1 : Int32) (v2 : Int32) (M : Mem) : SpO (wR M) yX8_ofHouse cX8_ofHouse 3 (some .int) 1 [.ref 1, .int v1, .int v2] M (f_X8_ofHouse_1 v1 v2 M) := by
  refine sp_of (L := [some (.ref 1), some (.int v1), some (.int v2)]) rfl (by decide +kernel) rfl rfl ?_
  unfold f_X8_ofHouse_1
  refine e_iload_n (dt dk_X8_ofHouse 0 rfl) rfl ?_
  refine ev_callT (ca_SN ms_X9_isHouse (sp_X9_isHouse v1 M) (dt dk_X8_ofHouse 1 rfl) mn_X8_46 rfl rfl rfl (by decide) : Ca _ _ _ _ _ _ _ _ [] _ _) ?_
  show Ev _ _ _ _ _ _ 4 [some (.ref 1), some (.int v1), some (.int v2)] [.int (f_X9_isHouse v1)] M _
  refine e_if_ne 9 (dt dk_X8_ofHouse 2 rfl) (by decide) (fun h1 => ?_) (fun h1 => ?_)
  · refine e_iconst (v := (-1 : Int32)) (dt dk_X8_ofHouse 3 rfl) (by decide) ?_
    exact e_iret (dt dk_X8_ofHouse 4 rfl) rfl rfl rfl
  · refine e_iload_n (dt dk_X8_ofHouse 5 rfl) rfl ?_
    refine e_split (fun h2 => ?_) (fun h2 => ?_)
    · refine e_tableIn 36 (dt dk_X8_ofHouse 6 rfl) (by rw [h2]; decide) (by rw [h2]; decide) (by rw [h2]; rfl) (by decide) ?_
      refine e_aload_n (dt dk_X8_ofHouse 7 rfl) rfl ?_
      refine e_getR ci_X8 (dt dk_X8_ofHouse 8 rfl) rfl (by decide) rfl fl_X8_9 ?_
      refine e_iload_n (dt dk_X8_ofHouse 9 rfl) rfl ?_
      refine e_if (fun h3 => ?_)
      refine e_iald' (v := (M 2 (ix v1))) (dt dk_X8_ofHouse 10 rfl) rfl h3 rfl ?_
      exact e_iret (dt dk_X8_ofHouse 11 rfl) rfl rfl rfl
    · skip
      refine e_split (fun h4 => ?_) (fun h4 => ?_)
      · refine e_tableIn 43 (dt dk_X8_ofHouse 6 rfl) (by rw [h4]; decide) (by rw [h4]; decide) (by rw [h4]; rfl) (by decide) ?_
        refine e_aload_n (dt dk_X8_ofHouse 12 rfl) rfl ?_
        refine e_getR ci_X8 (dt dk_X8_ofHouse 13 rfl) rfl (by decide) rfl fl_X8_15 ?_
        refine e_iload_n (dt dk_X8_ofHouse 14 rfl) rfl ?_
        refine e_if (fun h5 => ?_)
        refine e_iald' (v := (M 3 (ix v1))) (dt dk_X8_ofHouse 15 rfl) rfl h5 rfl ?_
        exact e_iret (dt dk_X8_ofHouse 16 rfl) rfl rfl rfl
      · skip
        refine e_split (fun h6 => ?_) (fun h6 => ?_)
        · refine e_tableIn 50 (dt dk_X8_ofHouse 6 rfl) (by rw [h6]; decide) (by rw [h6]; decide) (by rw [h6]; rfl) (by decide) ?_
          refine e_aload_n (dt dk_X8_ofHouse 17 rfl) rfl ?_
          refine e_getR ci_X8 (dt dk_X8_ofHouse 18 rfl) rfl (by decide) rfl fl_X8_18 ?_
          refine e_iload_n (dt dk_X8_ofHouse 19 rfl) rfl ?_
          refine e_if (fun h7 => ?_)
          refine e_iald' (v := (M 4 (ix v1))) (dt dk_X8_ofHouse 20 rfl) rfl h7 rfl ?_
          exact e_iret (dt dk_X8_ofHouse 21 rfl) rfl rfl rfl
        · skip
          refine e_tableOut 57 (dt dk_X8_ofHouse 6 rfl) (sw_out 2 (by simp only [List.range, List.range.loop, List.all_cons, List.all_nil]; simp [h2, h4, h6])) (by decide) ?_
          refine e_aload_n (dt dk_X8_ofHouse 22 rfl) rfl ?_
          refine e_getR ci_X8 (dt dk_X8_ofHouse 23 rfl) rfl (by decide) rfl fl_X8_21 ?_
          refine e_iload_n (dt dk_X8_ofHouse 24 rfl) rfl ?_
          refine e_if (fun h8 => ?_)
          refine e_iald' (v := (M 5 (ix v1))) (dt dk_X8_ofHouse 25 rfl) rfl h8 rfl ?_
          exact e_iret (dt dk_X8_ofHouse 26 rfl) rfl rfl rfl
end
section
-- X9_house (W, depth 1)
def f_X9_house (v1 : Int32) (v2 : Int32) (v3 : Int32) (v4 : Int32) (v5 : Int32) (M : Mem) : Option (Int32 × Mem) :=
  (if (f_X9_isHouse v1) = 0 then some ((-1 : Int32), M) else (if (f_X9_within v2 (0 : Int32) (99 : Int32)) = 0 then some ((-2 : Int32), M) else (if (f_X9_within v3 (0 : Int32) (9 : Int32)) = 0 then some ((-2 : Int32), M) else (if (f_X9_within v4 (0 : Int32) (9 : Int32)) = 0 then some ((-2 : Int32), M) else (if (f_X9_within v5 (0 : Int32) (9 : Int32)) = 0 then some ((-2 : Int32), M) else if inb v1 8 then if inb v1 8 then if inb v1 8 then if inb v1 8 then if inb v1 8 then some ((M 2 (ix v1)), (up2 (up2 (up2 (up2 M 2 (ix v1) v2) 3 (ix v1) v3) 4 (ix v1) v4) 5 (ix v1) v5)) else none else none else none else none else none)))))
set_option maxRecDepth 20000 in
set_option maxHeartbeats 2000000 in
theorem sp_X9_house (v1 : Int32) (v2 : Int32) (v3 : Int32) (v4 : Int32) (v5 : Int32) (M : Mem) : SpO wI yX9_house cX9_house 7 (some .int) 1 [.ref 0, .int v1, .int v2, .int v3, .int v4, .int v5] M (f_X9_house v1 v2 v3 v4 v5 M) := by
  refine sp_of (L := [some (.ref 0), some (.int v1), some (.int v2), some (.int v3), some (.int v4), some (.int v5), none]) rfl (by decide +kernel) rfl rfl ?_
  unfold f_X9_house
  refine e_iload_n (dt dk_X9_house 0 rfl) rfl ?_
  refine ev_callT (ca_S ms_X9_isHouse (sp_X9_isHouse v1 M) (dt dk_X9_house 1 rfl) ml_X9_75 rfl rfl rfl (by decide) : Ca _ _ _ _ _ _ _ _ [] _ _) ?_
  show Ev _ _ _ _ _ _ 4 [some (.ref 0), some (.int v1), some (.int v2), some (.int v3), some (.int v4), some (.int v5), none] [.int (f_X9_isHouse v1)] M _
  refine e_if_ne 9 (dt dk_X9_house 2 rfl) (by decide) (fun h1 => ?_) (fun h1 => ?_)
  · refine e_iconst (v := (-1 : Int32)) (dt dk_X9_house 3 rfl) (by decide) ?_
    exact e_iret (dt dk_X9_house 4 rfl) rfl rfl rfl
  · refine e_iload_n (dt dk_X9_house 5 rfl) rfl ?_
    refine e_iconst (v := (0 : Int32)) (dt dk_X9_house 6 rfl) (by decide) ?_
    refine e_bipush (v := (99 : Int32)) (dt dk_X9_house 7 rfl) (by decide) ?_
    refine ev_callT (ca_S ms_X9_within (sp_X9_within v2 (0 : Int32) (99 : Int32) M) (dt dk_X9_house 8 rfl) ml_X9_79 rfl rfl rfl (by decide) : Ca _ _ _ _ _ _ _ _ [] _ _) ?_
    show Ev _ _ _ _ _ _ 16 [some (.ref 0), some (.int v1), some (.int v2), some (.int v3), some (.int v4), some (.int v5), none] [.int (f_X9_within v2 (0 : Int32) (99 : Int32))] M _
    refine e_if_eq 51 (dt dk_X9_house 9 rfl) (by decide) (fun h2 => ?_) (fun h2 => ?_)
    · refine e_bipush (v := (-2 : Int32)) (dt dk_X9_house 25 rfl) (by decide) ?_
      exact e_iret (dt dk_X9_house 26 rfl) rfl rfl rfl
    · refine e_iload_n (dt dk_X9_house 10 rfl) rfl ?_
      refine e_iconst (v := (0 : Int32)) (dt dk_X9_house 11 rfl) (by decide) ?_
      refine e_bipush (v := (9 : Int32)) (dt dk_X9_house 12 rfl) (by decide) ?_
      refine ev_callT (ca_S ms_X9_within (sp_X9_within v3 (0 : Int32) (9 : Int32) M) (dt dk_X9_house 13 rfl) ml_X9_79 rfl rfl rfl (by decide) : Ca _ _ _ _ _ _ _ _ [] _ _) ?_
      show Ev _ _ _ _ _ _ 26 [some (.ref 0), some (.int v1), some (.int v2), some (.int v3), some (.int v4), some (.int v5), none] [.int (f_X9_within v3 (0 : Int32) (9 : Int32))] M _
      refine e_if_eq 51 (dt dk_X9_house 14 rfl) (by decide) (fun h3 => ?_) (fun h3 => ?_)
      · refine e_bipush (v := (-2 : Int32)) (dt dk_X9_house 25 rfl) (by decide) ?_
        exact e_iret (dt dk_X9_house 26 rfl) rfl rfl rfl
      · refine e_iload (dt dk_X9_house 15 rfl) rfl ?_
        refine e_iconst (v := (0 : Int32)) (dt dk_X9_house 16 rfl) (by decide) ?_
        refine e_bipush (v := (9 : Int32)) (dt dk_X9_house 17 rfl) (by decide) ?_
        refine ev_callT (ca_S ms_X9_within (sp_X9_within v4 (0 : Int32) (9 : Int32) M) (dt dk_X9_house 18 rfl) ml_X9_79 rfl rfl rfl (by decide) : Ca _ _ _ _ _ _ _ _ [] _ _) ?_
        show Ev _ _ _ _ _ _ 37 [some (.ref 0), some (.int v1), some (.int v2), some (.int v3), some (.int v4), some (.int v5), none] [.int (f_X9_within v4 (0 : Int32) (9 : Int32))] M _
        refine e_if_eq 51 (dt dk_X9_house 19 rfl) (by decide) (fun h4 => ?_) (fun h4 => ?_)
        · refine e_bipush (v := (-2 : Int32)) (dt dk_X9_house 25 rfl) (by decide) ?_
          exact e_iret (dt dk_X9_house 26 rfl) rfl rfl rfl
        · refine e_iload (dt dk_X9_house 20 rfl) rfl ?_
          refine e_iconst (v := (0 : Int32)) (dt dk_X9_house 21 rfl) (by decide) ?_
          refine e_bipush (v := (9 : Int32)) (dt dk_X9_house 22 rfl) (by decide) ?_
          refine ev_callT (ca_S ms_X9_within (sp_X9_within v5 (0 : Int32) (9 : Int32) M) (dt dk_X9_house 23 rfl) ml_X9_79 rfl rfl rfl (by decide) : Ca _ _ _ _ _ _ _ _ [] _ _) ?_
          show Ev _ _ _ _ _ _ 48 [some (.ref 0), some (.int v1), some (.int v2), some (.int v3), some (.int v4), some (.int v5), none] [.int (f_X9_within v5 (0 : Int32) (9 : Int32))] M _
          refine e_if_ne 54 (dt dk_X9_house 24 rfl) (by decide) (fun h5 => ?_) (fun h5 => ?_)
          · refine e_bipush (v := (-2 : Int32)) (dt dk_X9_house 25 rfl) (by decide) ?_
            exact e_iret (dt dk_X9_house 26 rfl) rfl rfl rfl
          · refine e_aload_n (dt dk_X9_house 27 rfl) rfl ?_
            refine e_getR ci_X9 (dt dk_X9_house 28 rfl) rfl (by decide) rfl fl_X9_10 ?_
            refine e_getR ci_X8 (dt dk_X9_house 29 rfl) rfl (by decide) rfl fl_X9_83 ?_
            refine e_iload_n (dt dk_X9_house 30 rfl) rfl ?_
            refine e_if (fun h6 => ?_)
            refine e_iald' (v := (M 2 (ix v1))) (dt dk_X9_house 31 rfl) rfl h6 rfl ?_
            refine e_istore [some (.ref 0), some (.int v1), some (.int v2), some (.int v3), some (.int v4), some (.int v5), some (.int (M 2 (ix v1)))] (dt dk_X9_house 32 rfl) rfl rfl rfl ?_
            refine e_aload_n (dt dk_X9_house 33 rfl) rfl ?_
            refine e_getR ci_X9 (dt dk_X9_house 34 rfl) rfl (by decide) rfl fl_X9_10 ?_
            refine e_getR ci_X8 (dt dk_X9_house 35 rfl) rfl (by decide) rfl fl_X9_83 ?_
            refine e_iload_n (dt dk_X9_house 36 rfl) rfl ?_
            refine e_iload_n (dt dk_X9_house 37 rfl) rfl ?_
            refine e_if (fun h7 => ?_)
            refine e_iast' (dt dk_X9_house 38 rfl) rfl h7 ?_
            refine e_aload_n (dt dk_X9_house 39 rfl) rfl ?_
            refine e_getR ci_X9 (dt dk_X9_house 40 rfl) rfl (by decide) rfl fl_X9_10 ?_
            refine e_getR ci_X8 (dt dk_X9_house 41 rfl) rfl (by decide) rfl fl_X9_87 ?_
            refine e_iload_n (dt dk_X9_house 42 rfl) rfl ?_
            refine e_iload_n (dt dk_X9_house 43 rfl) rfl ?_
            refine e_if (fun h8 => ?_)
            refine e_iast' (dt dk_X9_house 44 rfl) rfl h8 ?_
            refine e_aload_n (dt dk_X9_house 45 rfl) rfl ?_
            refine e_getR ci_X9 (dt dk_X9_house 46 rfl) rfl (by decide) rfl fl_X9_10 ?_
            refine e_getR ci_X8 (dt dk_X9_house 47 rfl) rfl (by decide) rfl fl_X9_90 ?_
            refine e_iload_n (dt dk_X9_house 48 rfl) rfl ?_
            refine e_iload (dt dk_X9_house 49 rfl) rfl ?_
            refine e_if (fun h9 => ?_)
            refine e_iast' (dt dk_X9_house 50 rfl) rfl h9 ?_
            refine e_aload_n (dt dk_X9_house 51 rfl) rfl ?_
            refine e_getR ci_X9 (dt dk_X9_house 52 rfl) rfl (by decide) rfl fl_X9_10 ?_
            refine e_getR ci_X8 (dt dk_X9_house 53 rfl) rfl (by decide) rfl fl_X9_93 ?_
            refine e_iload_n (dt dk_X9_house 54 rfl) rfl ?_
            refine e_iload (dt dk_X9_house 55 rfl) rfl ?_
            refine e_if (fun h10 => ?_)
            refine e_iast' (dt dk_X9_house 56 rfl) rfl h10 ?_
            refine e_iload (dt dk_X9_house 57 rfl) rfl ?_
            exact e_iret (dt dk_X9_house 58 rfl) rfl rfl rfl
-- X9_hole (W, depth 2)
def lb_X9_hole_43   (M : Mem) : Option (Int32 × Mem) :=
  ((f_X8_countHoles_1 M)).bind fun r6 => some (r6, M)
set_option maxRecDepth 20000 in
set_option maxHeartbeats 2000000 in
theorem ev_lb_X9_hole_43    (M : Mem) : Ev none wI RX9 cX9_hole (some .int) 2 43 [some (.ref 0), none, none, none] [] M (lb_X9_hole_43 M) := by
  unfold lb_X9_hole_43
  refine e_aload_n (dt dk_X9_hole 23 rfl) rfl ?_
  refine e_getR ci_X9 (dt dk_X9_hole 24 rfl) rfl (by decide) rfl fl_X9_10 ?_
  refine ev_call (ca_V (k := 1) mv_X8_countHoles (sp_X8_countHoles_1 M) (dt dk_X9_hole 25 rfl) ml_X9_104 rfl rfl rfl rfl rfl (by decide) : Ca _ _ _ _ _ _ _ _ [] _ _) (fun r6 hr6 => ?_)
  show Ev _ _ _ _ _ _ 50 [some (.ref 0), none, none, none] [.int r6] M _
  exact e_iret (dt dk_X9_hole 26 rfl) rfl rfl rfl
def f_X9_hole (v1 : Int32) (v2 : Int32) (v3 : Int32) (M : Mem) : Option (Int32 × Mem) :=
  (if (f_X9_isHouse v1) = 0 then some ((-1 : Int32), M) else (if (f_X9_isHouse v2) = 0 then some ((-1 : Int32), M) else (if v1 = v2 then some ((-1 : Int32), M) else ((f_X8_hasHole_1 v1 v2 M)).bind fun r4 => (if r4 = v3 then (lb_X9_hole_43 M) else ((f_X8_turnHole_1 v1 v2 M)).bind fun q7 => (lb_X9_hole_43 q7)))))
set_option maxRecDepth 20000 in
set_option maxHeartbeats 2000000 in
theorem sp_X9_hole (v1 : Int32) (v2 : Int32) (v3 : Int32) (M : Mem) : SpO wI yX9_hole cX9_hole 4 (some .int) 2 [.ref 0, .int v1, .int v2, .int v3] M (f_X9_hole v1 v2 v3 M) := by
  refine sp_of (L := [some (.ref 0), some (.int v1), some (.int v2), some (.int v3)]) rfl (by decide +kernel) rfl rfl ?_
  unfold f_X9_hole
  refine e_iload_n (dt dk_X9_hole 0 rfl) rfl ?_
  refine ev_callT (ca_S ms_X9_isHouse (sp_X9_isHouse v1 M) (dt dk_X9_hole 1 rfl) ml_X9_75 rfl rfl rfl (by decide) : Ca _ _ _ _ _ _ _ _ [] _ _) ?_
  show Ev _ _ _ _ _ _ 4 [some (.ref 0), some (.int v1), some (.int v2), some (.int v3)] [.int (f_X9_isHouse v1)] M _
  refine e_if_eq 19 (dt dk_X9_hole 2 rfl) (by decide) (fun h1 => ?_) (fun h1 => ?_)
  · refine e_iconst (v := (-1 : Int32)) (dt dk_X9_hole 9 rfl) (by decide) ?_
    exact e_iret (dt dk_X9_hole 10 rfl) rfl rfl rfl
  · refine e_iload_n (dt dk_X9_hole 3 rfl) rfl ?_
    refine ev_callT (ca_S ms_X9_isHouse (sp_X9_isHouse v2 M) (dt dk_X9_hole 4 rfl) ml_X9_75 rfl rfl rfl (by decide) : Ca _ _ _ _ _ _ _ _ [] _ _) ?_
    show Ev _ _ _ _ _ _ 11 [some (.ref 0), some (.int v1), some (.int v2), some (.int v3)] [.int (f_X9_isHouse v2)] M _
    refine e_if_eq 19 (dt dk_X9_hole 5 rfl) (by decide) (fun h2 => ?_) (fun h2 => ?_)
    · refine e_iconst (v := (-1 : Int32)) (dt dk_X9_hole 9 rfl) (by decide) ?_
      exact e_iret (dt dk_X9_hole 10 rfl) rfl rfl rfl
    · refine e_iload_n (dt dk_X9_hole 6 rfl) rfl ?_
      refine e_iload_n (dt dk_X9_hole 7 rfl) rfl ?_
      refine e_icmp_ne 21 (dt dk_X9_hole 8 rfl) (by decide) (fun h3 => ?_) (fun h3 => ?_)
      · refine e_iconst (v := (-1 : Int32)) (dt dk_X9_hole 9 rfl) (by decide) ?_
        exact e_iret (dt dk_X9_hole 10 rfl) rfl rfl rfl
      · refine e_aload_n (dt dk_X9_hole 11 rfl) rfl ?_
        refine e_getR ci_X9 (dt dk_X9_hole 12 rfl) rfl (by decide) rfl fl_X9_10 ?_
        refine e_iload_n (dt dk_X9_hole 13 rfl) rfl ?_
        refine e_iload_n (dt dk_X9_hole 14 rfl) rfl ?_
        refine ev_call (ca_V (k := 1) mv_X8_hasHole (sp_X8_hasHole_1 v1 v2 M) (dt dk_X9_hole 15 rfl) ml_X9_96 rfl rfl rfl rfl rfl (by decide) : Ca _ _ _ _ _ _ _ _ [] _ _) (fun r4 hr4 => ?_)
        show Ev _ _ _ _ _ _ 30 [some (.ref 0), some (.int v1), some (.int v2), some (.int v3)] [.int r4] M _
        refine e_iload_n (dt dk_X9_hole 16 rfl) rfl ?_
        refine e_icmp_eq 43 (dt dk_X9_hole 17 rfl) (by decide) (fun h5 => ?_) (fun h5 => ?_)
        · exact e_forget [true, false, false, false] [some (.ref 0), none, none, none] ⟨rfl, rfl⟩ (ev_lb_X9_hole_43 M)
        · refine e_aload_n (dt dk_X9_hole 18 rfl) rfl ?_
          refine e_getR ci_X9 (dt dk_X9_hole 19 rfl) rfl (by decide) rfl fl_X9_10 ?_
          refine e_iload_n (dt dk_X9_hole 20 rfl) rfl ?_
          refine e_iload_n (dt dk_X9_hole 21 rfl) rfl ?_
          refine ev_call (ca_V (k := 1) mv_X8_turnHole (sp_X8_turnHole_1 v1 v2 M) (dt dk_X9_hole 22 rfl) ml_X9_100 rfl rfl rfl rfl rfl (by decide) : Ca _ _ _ _ _ _ _ _ [] _ _) (fun q7 hq7 => ?_)
          show Ev _ _ _ _ _ _ 43 [some (.ref 0), some (.int v1), some (.int v2), some (.int v3)] [] q7 _
          exact e_forget [true, false, false, false] [some (.ref 0), none, none, none] ⟨rfl, rfl⟩ (ev_lb_X9_hole_43 q7)
-- X9_bag (W, depth 1)
def f_X9_bag (v1 : Int32) (M : Mem) : Option (Int32 × Mem) :=
  (if (f_X9_within v1 (0 : Int32) (99 : Int32)) = 0 then some ((-2 : Int32), M) else some ((M 1 6), (up2 M 1 6 v1)))
set_option maxRecDepth 20000 in
set_option maxHeartbeats 2000000 in
theorem sp_X9_bag (v1 : Int32) (M : Mem) : SpO wI yX9_bag cX9_bag 3 (some .int) 1 [.ref 0, .int v1] M (f_X9_bag v1 M) := by
  refine sp_of (L := [some (.ref 0), some (.int v1), none]) rfl (by decide +kernel) rfl rfl ?_
  unfold f_X9_bag
  refine e_iload_n (dt dk_X9_bag 0 rfl) rfl ?_
  refine e_iconst (v := (0 : Int32)) (dt dk_X9_bag 1 rfl) (by decide) ?_
  refine e_bipush (v := (99 : Int32)) (dt dk_X9_bag 2 rfl) (by decide) ?_
  refine ev_callT (ca_S ms_X9_within (sp_X9_within v1 (0 : Int32) (99 : Int32) M) (dt dk_X9_bag 3 rfl) ml_X9_79 rfl rfl rfl (by decide) : Ca _ _ _ _ _ _ _ _ [] _ _) ?_
  show Ev _ _ _ _ _ _ 7 [some (.ref 0), some (.int v1), none] [.int (f_X9_within v1 (0 : Int32) (99 : Int32))] M _
  refine e_if_ne 13 (dt dk_X9_bag 4 rfl) (by decide) (fun h1 => ?_) (fun h1 => ?_)
  · refine e_bipush (v := (-2 : Int32)) (dt dk_X9_bag 5 rfl) (by decide) ?_
    exact e_iret (dt dk_X9_bag 6 rfl) rfl rfl rfl
  · refine e_aload_n (dt dk_X9_bag 7 rfl) rfl ?_
    refine e_getR ci_X9 (dt dk_X9_bag 8 rfl) rfl (by decide) rfl fl_X9_10 ?_
    refine e_getI (v := (M 1 6)) ci_X8 (dt dk_X9_bag 9 rfl) rfl (by decide) rfl fl_X9_108 rfl ?_
    refine e_istore_n [some (.ref 0), some (.int v1), some (.int (M 1 6))] (dt dk_X9_bag 10 rfl) rfl rfl rfl ?_
    refine e_aload_n (dt dk_X9_bag 11 rfl) rfl ?_
    refine e_getR ci_X9 (dt dk_X9_bag 12 rfl) rfl (by decide) rfl fl_X9_10 ?_
    refine e_iload_n (dt dk_X9_bag 13 rfl) rfl ?_
    refine e_putI (ty := .int) ci_X8 (dt dk_X9_bag 14 rfl) rfl (by decide) rfl fl_X9_108 rfl (by decide +kernel) rfl rfl ?_
    refine e_iload_n (dt dk_X9_bag 15 rfl) rfl ?_
    exact e_iret (dt dk_X9_bag 16 rfl) rfl rfl rfl
-- X9_say (W, depth 1)
def f_X9_say (v1 : Int32) (M : Mem) : Option (Int32 × Mem) :=
  (if (f_X9_within v1 (33 : Int32) (126 : Int32)) = 0 then some ((-2 : Int32), M) else ((f_X5_add_15 v1 M)).bind fun q2 => (if q2.1 = 0 then some ((-4 : Int32), q2.2) else some ((q2.2 15 1), q2.2)))
set_option maxRecDepth 20000 in
set_option maxHeartbeats 2000000 in
theorem sp_X9_say (v1 : Int32) (M : Mem) : SpO wI yX9_say cX9_say 2 (some .int) 1 [.ref 0, .int v1] M (f_X9_say v1 M) := by
  refine sp_of (L := [some (.ref 0), some (.int v1)]) rfl (by decide +kernel) rfl rfl ?_
  unfold f_X9_say
  refine e_iload_n (dt dk_X9_say 0 rfl) rfl ?_
  refine e_bipush (v := (33 : Int32)) (dt dk_X9_say 1 rfl) (by decide) ?_
  refine e_bipush (v := (126 : Int32)) (dt dk_X9_say 2 rfl) (by decide) ?_
  refine ev_callT (ca_S ms_X9_within (sp_X9_within v1 (33 : Int32) (126 : Int32) M) (dt dk_X9_say 3 rfl) ml_X9_79 rfl rfl rfl (by decide) : Ca _ _ _ _ _ _ _ _ [] _ _) ?_
  show Ev _ _ _ _ _ _ 8 [some (.ref 0), some (.int v1)] [.int (f_X9_within v1 (33 : Int32) (126 : Int32))] M _
  refine e_if_ne 14 (dt dk_X9_say 4 rfl) (by decide) (fun h1 => ?_) (fun h1 => ?_)
  · refine e_bipush (v := (-2 : Int32)) (dt dk_X9_say 5 rfl) (by decide) ?_
    exact e_iret (dt dk_X9_say 6 rfl) rfl rfl rfl
  · refine e_aload_n (dt dk_X9_say 7 rfl) rfl ?_
    refine e_getR ci_X9 (dt dk_X9_say 8 rfl) rfl (by decide) rfl fl_X9_22 ?_
    refine e_iload_n (dt dk_X9_say 9 rfl) rfl ?_
    refine ev_call (ca_V (k := 15) mv_X5_add (sp_X5_add_15 v1 M) (dt dk_X9_say 10 rfl) ml_X9_112 rfl rfl rfl rfl rfl (by decide) : Ca _ _ _ _ _ _ _ _ [] _ _) (fun q2 hq2 => ?_)
    show Ev _ _ _ _ _ _ 22 [some (.ref 0), some (.int v1)] [.int q2.1] q2.2 _
    refine e_if_eq 35 (dt dk_X9_say 11 rfl) (by decide) (fun h3 => ?_) (fun h3 => ?_)
    · refine e_bipush (v := (-4 : Int32)) (dt dk_X9_say 16 rfl) (by decide) ?_
      exact e_iret (dt dk_X9_say 17 rfl) rfl rfl rfl
    · refine e_aload_n (dt dk_X9_say 12 rfl) rfl ?_
      refine e_getR ci_X9 (dt dk_X9_say 13 rfl) rfl (by decide) rfl fl_X9_22 ?_
      refine e_getI (v := (q2.2 15 1)) ci_X5 (dt dk_X9_say 14 rfl) rfl (by decide) rfl fl_X9_115 rfl ?_
      refine e_goto 37 (dt dk_X9_say 15 rfl) (by decide) ?_
      exact e_iret (dt dk_X9_say 17 rfl) rfl rfl rfl
-- X9_wipe (W, depth 0)
def f_X9_wipe  (M : Mem) : Option (Int32 × Mem) :=
  some ((M 15 1), (up2 M 15 1 (0 : Int32)))
set_option maxRecDepth 20000 in
set_option maxHeartbeats 2000000 in
theorem sp_X9_wipe  (M : Mem) : SpO wI yX9_wipe cX9_wipe 2 (some .int) 0 [.ref 0] M (f_X9_wipe M) := by
  refine sp_of (L := [some (.ref 0), none]) rfl (by decide +kernel) rfl rfl ?_
  unfold f_X9_wipe
  refine e_aload_n (dt dk_X9_wipe 0 rfl) rfl ?_
  refine e_getR ci_X9 (dt dk_X9_wipe 1 rfl) rfl (by decide) rfl fl_X9_22 ?_
  refine e_getI (v := (M 15 1)) ci_X5 (dt dk_X9_wipe 2 rfl) rfl (by decide) rfl fl_X9_115 rfl ?_
  refine e_istore_n [some (.ref 0), some (.int (M 15 1))] (dt dk_X9_wipe 3 rfl) rfl rfl rfl ?_
  refine e_aload_n (dt dk_X9_wipe 4 rfl) rfl ?_
  refine e_getR ci_X9 (dt dk_X9_wipe 5 rfl) rfl (by decide) rfl fl_X9_22 ?_
  refine e_iconst (v := (0 : Int32)) (dt dk_X9_wipe 6 rfl) (by decide) ?_
  refine e_putI (ty := .int) ci_X5 (dt dk_X9_wipe 7 rfl) rfl (by decide) rfl fl_X9_115 rfl (by decide +kernel) rfl rfl ?_
  refine e_iload_n (dt dk_X9_wipe 8 rfl) rfl ?_
  exact e_iret (dt dk_X9_wipe 9 rfl) rfl rfl rfl
-- X9_fault (R, depth 4)
def f_X9_fault  (M : Mem) : Option Int32 :=
  ((f_X5_faultPlace_15 M)).bind fun r1 => some r1
set_option maxRecDepth 20000 in
set_option maxHeartbeats 2000000 in
theorem sp_X9_fault  (M : Mem) : SpO (wR M) yX9_fault cX9_fault 1 (some .int) 4 [.ref 0] M (f_X9_fault M) := by
  refine sp_of (L := [some (.ref 0)]) rfl (by decide +kernel) rfl rfl ?_
  unfold f_X9_fault
  refine e_aload_n (dt dk_X9_fault 0 rfl) rfl ?_
  refine e_getR ci_X9 (dt dk_X9_fault 1 rfl) rfl (by decide) rfl fl_X9_22 ?_
  refine ev_call (ca_V (k := 15) mv_X5_faultPlace (sp_X5_faultPlace_15 M) (dt dk_X9_fault 2 rfl) ml_X9_118 rfl rfl rfl rfl rfl (by decide) : Ca _ _ _ _ _ _ _ _ [] _ _) (fun r1 hr1 => ?_)
  show Ev _ _ _ _ _ _ 7 [some (.ref 0)] [.int r1] M _
  exact e_iret (dt dk_X9_fault 3 rfl) rfl rfl rfl
-- X9_tryPad (W, depth 5)
def f_X9_tryPad  (M : Mem) : Option (Int32 × Mem) :=
  ((f_X5_faultPlace_15 M)).bind fun r1 => (if r1 = (-6 : Int32) then ((f_X8_become_8_1 M)).bind fun q3 => ((f_X7_follow_18_15_17_8 q3)).bind fun q4 => (if (q4 18 1) = (-6 : Int32) then some ((0 : Int32), q4) else some ((-3 : Int32), q4)) else some ((-5 : Int32), M))
set_option maxRecDepth 20000 in
set_option maxHeartbeats 2000000 in
theorem sp_X9_tryPad  (M : Mem) : SpO wI yX9_tryPad cX9_tryPad 1 (some .int) 5 [.ref 0] M (f_X9_tryPad M) := by
  refine sp_of (L := [some (.ref 0)]) rfl (by decide +kernel) rfl rfl ?_
  unfold f_X9_tryPad
  refine e_aload_n (dt dk_X9_tryPad 0 rfl) rfl ?_
  refine e_getR ci_X9 (dt dk_X9_tryPad 1 rfl) rfl (by decide) rfl fl_X9_22 ?_
  refine ev_call (ca_V (k := 15) mv_X5_faultPlace (sp_X5_faultPlace_15 M) (dt dk_X9_tryPad 2 rfl) ml_X9_118 rfl rfl rfl rfl rfl (by decide) : Ca _ _ _ _ _ _ _ _ [] _ _) (fun r1 hr1 => ?_)
  show Ev _ _ _ _ _ _ 7 [some (.ref 0)] [.int r1] M _
  refine e_bipush (v := (-6 : Int32)) (dt dk_X9_tryPad 3 rfl) (by decide) ?_
  refine e_icmp_eq 15 (dt dk_X9_tryPad 4 rfl) (by decide) (fun h2 => ?_) (fun h2 => ?_)
  · refine e_aload_n (dt dk_X9_tryPad 7 rfl) rfl ?_
    refine e_getR ci_X9 (dt dk_X9_tryPad 8 rfl) rfl (by decide) rfl fl_X9_16 ?_
    refine e_aload_n (dt dk_X9_tryPad 9 rfl) rfl ?_
    refine e_getR ci_X9 (dt dk_X9_tryPad 10 rfl) rfl (by decide) rfl fl_X9_10 ?_
    refine ev_call (ca_V (k := 8) mv_X8_become (sp_X8_become_8_1 M) (dt dk_X9_tryPad 11 rfl) ml_X9_152 rfl rfl rfl rfl rfl (by decide) : Ca _ _ _ _ _ _ _ _ [] _ _) (fun q3 hq3 => ?_)
    show Ev _ _ _ _ _ _ 26 [some (.ref 0)] [] q3 _
    refine e_aload_n (dt dk_X9_tryPad 12 rfl) rfl ?_
    refine e_getR ci_X9 (dt dk_X9_tryPad 13 rfl) rfl (by decide) rfl fl_X9_36 ?_
    refine e_aload_n (dt dk_X9_tryPad 14 rfl) rfl ?_
    refine e_getR ci_X9 (dt dk_X9_tryPad 15 rfl) rfl (by decide) rfl fl_X9_22 ?_
    refine e_aload_n (dt dk_X9_tryPad 16 rfl) rfl ?_
    refine e_getR ci_X9 (dt dk_X9_tryPad 17 rfl) rfl (by decide) rfl fl_X9_29 ?_
    refine e_aload_n (dt dk_X9_tryPad 18 rfl) rfl ?_
    refine e_getR ci_X9 (dt dk_X9_tryPad 19 rfl) rfl (by decide) rfl fl_X9_16 ?_
    refine ev_call (ca_V (k := 18) mv_X7_follow (sp_X7_follow_18_15_17_8 q3) (dt dk_X9_tryPad 20 rfl) ml_X9_159 rfl rfl rfl rfl rfl (by decide) : Ca _ _ _ _ _ _ _ _ [] _ _) (fun q4 hq4 => ?_)
    show Ev _ _ _ _ _ _ 45 [some (.ref 0)] [] q4 _
    refine e_aload_n (dt dk_X9_tryPad 21 rfl) rfl ?_
    refine e_getR ci_X9 (dt dk_X9_tryPad 22 rfl) rfl (by decide) rfl fl_X9_36 ?_
    refine e_getI (v := (q4 18 1)) ci_X7 (dt dk_X9_tryPad 23 rfl) rfl (by decide) rfl fl_X9_124 rfl ?_
    refine e_bipush (v := (-6 : Int32)) (dt dk_X9_tryPad 24 rfl) (by decide) ?_
    refine e_icmp_ne 61 (dt dk_X9_tryPad 25 rfl) (by decide) (fun h5 => ?_) (fun h5 => ?_)
    · refine e_iconst (v := (0 : Int32)) (dt dk_X9_tryPad 26 rfl) (by decide) ?_
      refine e_goto 63 (dt dk_X9_tryPad 27 rfl) (by decide) ?_
      exact e_iret (dt dk_X9_tryPad 29 rfl) rfl rfl rfl
    · refine e_bipush (v := (-3 : Int32)) (dt dk_X9_tryPad 28 rfl) (by decide) ?_
      exact e_iret (dt dk_X9_tryPad 29 rfl) rfl rfl rfl
  · refine e_bipush (v := (-5 : Int32)) (dt dk_X9_tryPad 5 rfl) (by decide) ?_
    exact e_iret (dt dk_X9_tryPad 6 rfl) rfl rfl rfl
-- X9_judge (W, depth 6)
def f_X9_judge (v1 : Int32) (M : Mem) : Option (Int32 × Mem) :=
  (if (f_X9_within v1 (0 : Int32) (2 : Int32)) = 0 then some ((-2 : Int32), M) else ((f_X9_tryPad M)).bind fun q2 => (if q2.1 = (-5 : Int32) then some ((-5 : Int32), q2.2) else (if v1 = (0 : Int32) then some ((q2.2 18 1), q2.2) else if v1 = (1 : Int32) then some ((q2.2 18 2), q2.2) else (if q2.1 = (-3 : Int32) then some ((-3 : Int32), q2.2) else some (((q2.2 8 7) - (q2.2 1 7)), q2.2)))))
set_option maxRecDepth 20000 in
set_option maxHeartbeats 2000000 in
theorem sp_X9_judge (v1 : Int32) (M : Mem) : SpO wI yX9_judge cX9_judge 3 (some .int) 6 [.ref 0, .int v1] M (f_X9_judge v1 M) := by
  refine sp_of (L := [some (.ref 0), some (.int v1), none]) rfl (by decide +kernel) rfl rfl ?_
  unfold f_X9_judge
  refine e_iload_n (dt dk_X9_judge 0 rfl) rfl ?_
  refine e_iconst (v := (0 : Int32)) (dt dk_X9_judge 1 rfl) (by decide) ?_
  refine e_iconst (v := (2 : Int32)) (dt dk_X9_judge 2 rfl) (by decide) ?_
  refine ev_callT (ca_S ms_X9_within (sp_X9_within v1 (0 : Int32) (2 : Int32) M) (dt dk_X9_judge 3 rfl) ml_X9_79 rfl rfl rfl (by decide) : Ca _ _ _ _ _ _ _ _ [] _ _) ?_
  show Ev _ _ _ _ _ _ 6 [some (.ref 0), some (.int v1), none] [.int (f_X9_within v1 (0 : Int32) (2 : Int32))] M _
  refine e_if_ne 12 (dt dk_X9_judge 4 rfl) (by decide) (fun h1 => ?_) (fun h1 => ?_)
  · refine e_bipush (v := (-2 : Int32)) (dt dk_X9_judge 5 rfl) (by decide) ?_
    exact e_iret (dt dk_X9_judge 6 rfl) rfl rfl rfl
  · refine e_aload_n (dt dk_X9_judge 7 rfl) rfl ?_
    refine ev_call (ca_V (k := 0) mv_X9_tryPad (sp_X9_tryPad M) (dt dk_X9_judge 8 rfl) ml_X9_121 rfl rfl rfl rfl rfl (by decide) : Ca _ _ _ _ _ _ _ _ [] _ _) (fun q2 hq2 => ?_)
    show Ev _ _ _ _ _ _ 16 [some (.ref 0), some (.int v1), none] [.int q2.1] q2.2 _
    refine e_istore_n [some (.ref 0), some (.int v1), some (.int q2.1)] (dt dk_X9_judge 9 rfl) rfl rfl rfl ?_
    refine e_iload_n (dt dk_X9_judge 10 rfl) rfl ?_
    refine e_bipush (v := (-5 : Int32)) (dt dk_X9_judge 11 rfl) (by decide) ?_
    refine e_icmp_ne 26 (dt dk_X9_judge 12 rfl) (by decide) (fun h3 => ?_) (fun h3 => ?_)
    · refine e_bipush (v := (-5 : Int32)) (dt dk_X9_judge 13 rfl) (by decide) ?_
      exact e_iret (dt dk_X9_judge 14 rfl) rfl rfl rfl
    · refine e_iload_n (dt dk_X9_judge 15 rfl) rfl ?_
      refine e_split (fun h4 => ?_) (fun h4 => ?_)
      · refine e_lookup (off := 25) 52 (dt dk_X9_judge 16 rfl) rfl (by rw [h4]; rfl) (by decide) ?_
        refine e_aload_n (dt dk_X9_judge 17 rfl) rfl ?_
        refine e_getR ci_X9 (dt dk_X9_judge 18 rfl) rfl (by decide) rfl fl_X9_36 ?_
        refine e_getI (v := (q2.2 18 1)) ci_X7 (dt dk_X9_judge 19 rfl) rfl (by decide) rfl fl_X9_124 rfl ?_
        exact e_iret (dt dk_X9_judge 20 rfl) rfl rfl rfl
      · skip
        refine e_split (fun h5 => ?_) (fun h5 => ?_)
        · refine e_lookup (off := 33) 60 (dt dk_X9_judge 16 rfl) rfl (by rw [h5]; rfl) (by decide) ?_
          refine e_aload_n (dt dk_X9_judge 21 rfl) rfl ?_
          refine e_getR ci_X9 (dt dk_X9_judge 22 rfl) rfl (by decide) rfl fl_X9_36 ?_
          refine e_getI (v := (q2.2 18 2)) ci_X7 (dt dk_X9_judge 23 rfl) rfl (by decide) rfl fl_X9_127 rfl ?_
          exact e_iret (dt dk_X9_judge 24 rfl) rfl rfl rfl
        · skip
          refine e_lookup (off := 41) 68 (dt dk_X9_judge 16 rfl) rfl ((lv_osw h4 rfl).trans <| (lv_osw h5 rfl).trans <| rfl) (by decide) ?_
          refine e_iload_n (dt dk_X9_judge 25 rfl) rfl ?_
          refine e_bipush (v := (-3 : Int32)) (dt dk_X9_judge 26 rfl) (by decide) ?_
          refine e_icmp_ne 79 (dt dk_X9_judge 27 rfl) (by decide) (fun h6 => ?_) (fun h6 => ?_)
          · refine e_bipush (v := (-3 : Int32)) (dt dk_X9_judge 28 rfl) (by decide) ?_
            refine e_goto 94 (dt dk_X9_judge 29 rfl) (by decide) ?_
            exact e_iret (dt dk_X9_judge 37 rfl) rfl rfl rfl
          · refine e_aload_n (dt dk_X9_judge 30 rfl) rfl ?_
            refine e_getR ci_X9 (dt dk_X9_judge 31 rfl) rfl (by decide) rfl fl_X9_16 ?_
            refine e_getI (v := (q2.2 8 7)) ci_X8 (dt dk_X9_judge 32 rfl) rfl (by decide) rfl fl_X9_130 rfl ?_
            refine e_aload_n (dt dk_X9_judge 33 rfl) rfl ?_
            refine e_getR ci_X9 (dt dk_X9_judge 34 rfl) rfl (by decide) rfl fl_X9_10 ?_
            refine e_getI (v := (q2.2 1 7)) ci_X8 (dt dk_X9_judge 35 rfl) rfl (by decide) rfl fl_X9_130 rfl ?_
            refine e_isub (dt dk_X9_judge 36 rfl) ?_
            exact e_iret (dt dk_X9_judge 37 rfl) rfl rfl rfl
-- X9_behind (W, depth 6)
def f_X9_behind (v1 : Int32) (v2 : Int32) (M : Mem) : Option (Int32 × Mem) :=
  (if (f_X9_isHouse v1) = 0 then some ((-1 : Int32), M) else (if (f_X9_within v2 (0 : Int32) (3 : Int32)) = 0 then some ((-2 : Int32), M) else ((f_X9_tryPad M)).bind fun q3 => (if q3.1 = 0 then ((f_X8_ofHouse_8 v1 v2 q3.2)).bind fun r5 => some (r5, q3.2) else some (q3.1, q3.2))))
set_option maxRecDepth 20000 in
set_option maxHeartbeats 2000000 in
theorem sp_X9_behind (v1 : Int32) (v2 : Int32) (M : Mem) : SpO wI yX9_behind cX9_behind 4 (some .int) 6 [.ref 0, .int v1, .int v2] M (f_X9_behind v1 v2 M) := by
  refine sp_of (L := [some (.ref 0), some (.int v1), some (.int v2), none]) rfl (by decide +kernel) rfl rfl ?_
  unfold f_X9_behind
  refine e_iload_n (dt dk_X9_behind 0 rfl) rfl ?_
  refine ev_callT (ca_S ms_X9_isHouse (sp_X9_isHouse v1 M) (dt dk_X9_behind 1 rfl) ml_X9_75 rfl rfl rfl (by decide) : Ca _ _ _ _ _ _ _ _ [] _ _) ?_
  show Ev _ _ _ _ _ _ 4 [some (.ref 0), some (.int v1), some (.int v2), none] [.int (f_X9_isHouse v1)] M _
  refine e_if_ne 9 (dt dk_X9_behind 2 rfl) (by decide) (fun h1 => ?_) (fun h1 => ?_)
  · refine e_iconst (v := (-1 : Int32)) (dt dk_X9_behind 3 rfl) (by decide) ?_
    exact e_iret (dt dk_X9_behind 4 rfl) rfl rfl rfl
  · refine e_iload_n (dt dk_X9_behind 5 rfl) rfl ?_
    refine e_iconst (v := (0 : Int32)) (dt dk_X9_behind 6 rfl) (by decide) ?_
    refine e_iconst (v := (3 : Int32)) (dt dk_X9_behind 7 rfl) (by decide) ?_
    refine ev_callT (ca_S ms_X9_within (sp_X9_within v2 (0 : Int32) (3 : Int32) M) (dt dk_X9_behind 8 rfl) ml_X9_79 rfl rfl rfl (by decide) : Ca _ _ _ _ _ _ _ _ [] _ _) ?_
    show Ev _ _ _ _ _ _ 15 [some (.ref 0), some (.int v1), some (.int v2), none] [.int (f_X9_within v2 (0 : Int32) (3 : Int32))] M _
    refine e_if_ne 21 (dt dk_X9_behind 9 rfl) (by decide) (fun h2 => ?_) (fun h2 => ?_)
    · refine e_bipush (v := (-2 : Int32)) (dt dk_X9_behind 10 rfl) (by decide) ?_
      exact e_iret (dt dk_X9_behind 11 rfl) rfl rfl rfl
    · refine e_aload_n (dt dk_X9_behind 12 rfl) rfl ?_
      refine ev_call (ca_V (k := 0) mv_X9_tryPad (sp_X9_tryPad M) (dt dk_X9_behind 13 rfl) ml_X9_121 rfl rfl rfl rfl rfl (by decide) : Ca _ _ _ _ _ _ _ _ [] _ _) (fun q3 hq3 => ?_)
      show Ev _ _ _ _ _ _ 25 [some (.ref 0), some (.int v1), some (.int v2), none] [.int q3.1] q3.2 _
      refine e_istore_n [some (.ref 0), some (.int v1), some (.int v2), some (.int q3.1)] (dt dk_X9_behind 14 rfl) rfl rfl rfl ?_
      refine e_iload_n (dt dk_X9_behind 15 rfl) rfl ?_
      refine e_if_eq 34 (dt dk_X9_behind 16 rfl) (by decide) (fun h4 => ?_) (fun h4 => ?_)
      · refine e_aload_n (dt dk_X9_behind 19 rfl) rfl ?_
        refine e_getR ci_X9 (dt dk_X9_behind 20 rfl) rfl (by decide) rfl fl_X9_16 ?_
        refine e_iload_n (dt dk_X9_behind 21 rfl) rfl ?_
        refine e_iload_n (dt dk_X9_behind 22 rfl) rfl ?_
        refine ev_call (ca_V (k := 8) mv_X8_ofHouse (sp_X8_ofHouse_8 v1 v2 q3.2) (dt dk_X9_behind 23 rfl) ml_X9_133 rfl rfl rfl rfl rfl (by decide) : Ca _ _ _ _ _ _ _ _ [] _ _) (fun r5 hr5 => ?_)
        show Ev _ _ _ _ _ _ 43 [some (.ref 0), some (.int v1), some (.int v2), some (.int q3.1)] [.int r5] q3.2 _
        exact e_iret (dt dk_X9_behind 24 rfl) rfl rfl rfl
      · refine e_iload_n (dt dk_X9_behind 17 rfl) rfl ?_
        refine e_goto 43 (dt dk_X9_behind 18 rfl) (by decide) ?_
        exact e_iret (dt dk_X9_behind 24 rfl) rfl rfl rfl
-- X9_town (W, depth 6)
def f_X9_town (v1 : Int32) (M : Mem) : Option (Int32 × Mem) :=
  (if (f_X9_within v1 (0 : Int32) (4 : Int32)) = 0 then some ((-2 : Int32), M) else ((f_X9_tryPad M)).bind fun q2 => (if q2.1 = 0 then (if v1 = (0 : Int32) then ((f_X8_allDoubts_8 q2.2)).bind fun r5 => some (r5, q2.2) else if v1 = (1 : Int32) then some ((q2.2 8 6), q2.2) else if v1 = (2 : Int32) then some ((q2.2 8 7), q2.2) else if v1 = (3 : Int32) then some ((q2.2 8 8), q2.2) else ((f_X8_clearHouses_8 q2.2)).bind fun r9 => some (r9, q2.2)) else some (q2.1, q2.2)))
set_option maxRecDepth 20000 in
set_option maxHeartbeats 2000000 in
theorem sp_X9_town (v1 : Int32) (M : Mem) : SpO wI yX9_town cX9_town 3 (some .int) 6 [.ref 0, .int v1] M (f_X9_town v1 M) := by
  refine sp_of (L := [some (.ref 0), some (.int v1), none]) rfl (by decide +kernel) rfl rfl ?_
  unfold f_X9_town
  refine e_iload_n (dt dk_X9_town 0 rfl) rfl ?_
  refine e_iconst (v := (0 : Int32)) (dt dk_X9_town 1 rfl) (by decide) ?_
  refine e_iconst (v := (4 : Int32)) (dt dk_X9_town 2 rfl) (by decide) ?_
  refine ev_callT (ca_S ms_X9_within (sp_X9_within v1 (0 : Int32) (4 : Int32) M) (dt dk_X9_town 3 rfl) ml_X9_79 rfl rfl rfl (by decide) : Ca _ _ _ _ _ _ _ _ [] _ _) ?_
  show Ev _ _ _ _ _ _ 6 [some (.ref 0), some (.int v1), none] [.int (f_X9_within v1 (0 : Int32) (4 : Int32))] M _
  refine e_if_ne 12 (dt dk_X9_town 4 rfl) (by decide) (fun h1 => ?_) (fun h1 => ?_)
  · refine e_bipush (v := (-2 : Int32)) (dt dk_X9_town 5 rfl) (by decide) ?_
    exact e_iret (dt dk_X9_town 6 rfl) rfl rfl rfl
  · refine e_aload_n (dt dk_X9_town 7 rfl) rfl ?_
    refine ev_call (ca_V (k := 0) mv_X9_tryPad (sp_X9_tryPad M) (dt dk_X9_town 8 rfl) ml_X9_121 rfl rfl rfl rfl rfl (by decide) : Ca _ _ _ _ _ _ _ _ [] _ _) (fun q2 hq2 => ?_)
    show Ev _ _ _ _ _ _ 16 [some (.ref 0), some (.int v1), none] [.int q2.1] q2.2 _
    refine e_istore_n [some (.ref 0), some (.int v1), some (.int q2.1)] (dt dk_X9_town 9 rfl) rfl rfl rfl ?_
    refine e_iload_n (dt dk_X9_town 10 rfl) rfl ?_
    refine e_if_eq 23 (dt dk_X9_town 11 rfl) (by decide) (fun h3 => ?_) (fun h3 => ?_)
    · refine e_iload_n (dt dk_X9_town 14 rfl) rfl ?_
      refine e_split (fun h4 => ?_) (fun h4 => ?_)
      · refine e_tableIn 56 (dt dk_X9_town 15 rfl) (by rw [h4]; decide) (by rw [h4]; decide) (by rw [h4]; rfl) (by decide) ?_
        refine e_aload_n (dt dk_X9_town 16 rfl) rfl ?_
        refine e_getR ci_X9 (dt dk_X9_town 17 rfl) rfl (by decide) rfl fl_X9_16 ?_
        refine ev_call (ca_V (k := 8) mv_X8_allDoubts (sp_X8_allDoubts_8 q2.2) (dt dk_X9_town 18 rfl) ml_X9_137 rfl rfl rfl rfl rfl (by decide) : Ca _ _ _ _ _ _ _ _ [] _ _) (fun r5 hr5 => ?_)
        show Ev _ _ _ _ _ _ 63 [some (.ref 0), some (.int v1), some (.int q2.1)] [.int r5] q2.2 _
        exact e_iret (dt dk_X9_town 19 rfl) rfl rfl rfl
      · skip
        refine e_split (fun h6 => ?_) (fun h6 => ?_)
        · refine e_tableIn 64 (dt dk_X9_town 15 rfl) (by rw [h6]; decide) (by rw [h6]; decide) (by rw [h6]; rfl) (by decide) ?_
          refine e_aload_n (dt dk_X9_town 20 rfl) rfl ?_
          refine e_getR ci_X9 (dt dk_X9_town 21 rfl) rfl (by decide) rfl fl_X9_16 ?_
          refine e_getI (v := (q2.2 8 6)) ci_X8 (dt dk_X9_town 22 rfl) rfl (by decide) rfl fl_X9_108 rfl ?_
          exact e_iret (dt dk_X9_town 23 rfl) rfl rfl rfl
        · skip
          refine e_split (fun h7 => ?_) (fun h7 => ?_)
          · refine e_tableIn 72 (dt dk_X9_town 15 rfl) (by rw [h7]; decide) (by rw [h7]; decide) (by rw [h7]; rfl) (by decide) ?_
            refine e_aload_n (dt dk_X9_town 24 rfl) rfl ?_
            refine e_getR ci_X9 (dt dk_X9_town 25 rfl) rfl (by decide) rfl fl_X9_16 ?_
            refine e_getI (v := (q2.2 8 7)) ci_X8 (dt dk_X9_town 26 rfl) rfl (by decide) rfl fl_X9_130 rfl ?_
            exact e_iret (dt dk_X9_town 27 rfl) rfl rfl rfl
          · skip
            refine e_split (fun h8 => ?_) (fun h8 => ?_)
            · refine e_tableIn 80 (dt dk_X9_town 15 rfl) (by rw [h8]; decide) (by rw [h8]; decide) (by rw [h8]; rfl) (by decide) ?_
              refine e_aload_n (dt dk_X9_town 28 rfl) rfl ?_
              refine e_getR ci_X9 (dt dk_X9_town 29 rfl) rfl (by decide) rfl fl_X9_16 ?_
              refine e_getI (v := (q2.2 8 8)) ci_X8 (dt dk_X9_town 30 rfl) rfl (by decide) rfl fl_X9_140 rfl ?_
              exact e_iret (dt dk_X9_town 31 rfl) rfl rfl rfl
            · skip
              refine e_tableOut 88 (dt dk_X9_town 15 rfl) (sw_out 3 (by simp only [List.range, List.range.loop, List.all_cons, List.all_nil]; simp [h4, h6, h7, h8])) (by decide) ?_
              refine e_aload_n (dt dk_X9_town 32 rfl) rfl ?_
              refine e_getR ci_X9 (dt dk_X9_town 33 rfl) rfl (by decide) rfl fl_X9_16 ?_
              refine ev_call (ca_V (k := 8) mv_X8_clearHouses (sp_X8_clearHouses_8 q2.2) (dt dk_X9_town 34 rfl) ml_X9_143 rfl rfl rfl rfl rfl (by decide) : Ca _ _ _ _ _ _ _ _ [] _ _) (fun r9 hr9 => ?_)
              show Ev _ _ _ _ _ _ 95 [some (.ref 0), some (.int v1), some (.int q2.1)] [.int r9] q2.2 _
              exact e_iret (dt dk_X9_town 35 rfl) rfl rfl rfl
    · refine e_iload_n (dt dk_X9_town 12 rfl) rfl ?_
      exact e_iret (dt dk_X9_town 13 rfl) rfl rfl rfl
-- X9_rid (W, depth 6)
def f_X9_rid (v1 : Int32) (M : Mem) : Option (Int32 × Mem) :=
  (if (f_X9_within v1 (0 : Int32) (1 : Int32)) = 0 then some ((-2 : Int32), M) else ((f_X9_tryPad M)).bind fun q2 => (if q2.1 = 0 then (if v1 = 0 then some ((q2.2 18 3), q2.2) else some ((q2.2 18 4), q2.2)) else some (q2.1, q2.2)))
set_option maxRecDepth 20000 in
set_option maxHeartbeats 2000000 in
theorem sp_X9_rid (v1 : Int32) (M : Mem) : SpO wI yX9_rid cX9_rid 3 (some .int) 6 [.ref 0, .int v1] M (f_X9_rid v1 M) := by
  refine sp_of (L := [some (.ref 0), some (.int v1), none]) rfl (by decide +kernel) rfl rfl ?_
  unfold f_X9_rid
  refine e_iload_n (dt dk_X9_rid 0 rfl) rfl ?_
  refine e_iconst (v := (0 : Int32)) (dt dk_X9_rid 1 rfl) (by decide) ?_
  refine e_iconst (v := (1 : Int32)) (dt dk_X9_rid 2 rfl) (by decide) ?_
  refine ev_callT (ca_S ms_X9_within (sp_X9_within v1 (0 : Int32) (1 : Int32) M) (dt dk_X9_rid 3 rfl) ml_X9_79 rfl rfl rfl (by decide) : Ca _ _ _ _ _ _ _ _ [] _ _) ?_
  show Ev _ _ _ _ _ _ 6 [some (.ref 0), some (.int v1), none] [.int (f_X9_within v1 (0 : Int32) (1 : Int32))] M _
  refine e_if_ne 12 (dt dk_X9_rid 4 rfl) (by decide) (fun h1 => ?_) (fun h1 => ?_)
  · refine e_bipush (v := (-2 : Int32)) (dt dk_X9_rid 5 rfl) (by decide) ?_
    exact e_iret (dt dk_X9_rid 6 rfl) rfl rfl rfl
  · refine e_aload_n (dt dk_X9_rid 7 rfl) rfl ?_
    refine ev_call (ca_V (k := 0) mv_X9_tryPad (sp_X9_tryPad M) (dt dk_X9_rid 8 rfl) ml_X9_121 rfl rfl rfl rfl rfl (by decide) : Ca _ _ _ _ _ _ _ _ [] _ _) (fun q2 hq2 => ?_)
    show Ev _ _ _ _ _ _ 16 [some (.ref 0), some (.int v1), none] [.int q2.1] q2.2 _
    refine e_istore_n [some (.ref 0), some (.int v1), some (.int q2.1)] (dt dk_X9_rid 9 rfl) rfl rfl rfl ?_
    refine e_iload_n (dt dk_X9_rid 10 rfl) rfl ?_
    refine e_if_eq 23 (dt dk_X9_rid 11 rfl) (by decide) (fun h3 => ?_) (fun h3 => ?_)
    · refine e_iload_n (dt dk_X9_rid 14 rfl) rfl ?_
      refine e_if_ne 37 (dt dk_X9_rid 15 rfl) (by decide) (fun h4 => ?_) (fun h4 => ?_)
      · refine e_aload_n (dt dk_X9_rid 16 rfl) rfl ?_
        refine e_getR ci_X9 (dt dk_X9_rid 17 rfl) rfl (by decide) rfl fl_X9_36 ?_
        refine e_getI (v := (q2.2 18 3)) ci_X7 (dt dk_X9_rid 18 rfl) rfl (by decide) rfl fl_X9_146 rfl ?_
        refine e_goto 44 (dt dk_X9_rid 19 rfl) (by decide) ?_
        exact e_iret (dt dk_X9_rid 23 rfl) rfl rfl rfl
      · refine e_aload_n (dt dk_X9_rid 20 rfl) rfl ?_
        refine e_getR ci_X9 (dt dk_X9_rid 21 rfl) rfl (by decide) rfl fl_X9_36 ?_
        refine e_getI (v := (q2.2 18 4)) ci_X7 (dt dk_X9_rid 22 rfl) rfl (by decide) rfl fl_X9_149 rfl ?_
        exact e_iret (dt dk_X9_rid 23 rfl) rfl rfl rfl
    · refine e_iload_n (dt dk_X9_rid 12 rfl) rfl ?_
      exact e_iret (dt dk_X9_rid 13 rfl) rfl rfl rfl
-- X9_done (W, depth 6)
def f_X9_done  (M : Mem) : Option (Int32 × Mem) :=
  ((f_X9_tryPad M)).bind fun q1 => (if q1.1 = 0 then ((f_X8_become_1_8 q1.2)).bind fun q3 => some ((q3 18 0), (up2 q3 15 1 (0 : Int32))) else some (q1.1, q1.2))
set_option maxRecDepth 20000 in
set_option maxHeartbeats 2000000 in
theorem sp_X9_done  (M : Mem) : SpO wI yX9_done cX9_done 2 (some .int) 6 [.ref 0] M (f_X9_done M) := by
  refine sp_of (L := [some (.ref 0), none]) rfl (by decide +kernel) rfl rfl ?_
  unfold f_X9_done
  refine e_aload_n (dt dk_X9_done 0 rfl) rfl ?_
  refine ev_call (ca_V (k := 0) mv_X9_tryPad (sp_X9_tryPad M) (dt dk_X9_done 1 rfl) ml_X9_121 rfl rfl rfl rfl rfl (by decide) : Ca _ _ _ _ _ _ _ _ [] _ _) (fun q1 hq1 => ?_)
  show Ev _ _ _ _ _ _ 4 [some (.ref 0), none] [.int q1.1] q1.2 _
  refine e_istore_n [some (.ref 0), some (.int q1.1)] (dt dk_X9_done 2 rfl) rfl rfl rfl ?_
  refine e_iload_n (dt dk_X9_done 3 rfl) rfl ?_
  refine e_if_eq 11 (dt dk_X9_done 4 rfl) (by decide) (fun h2 => ?_) (fun h2 => ?_)
  · refine e_aload_n (dt dk_X9_done 7 rfl) rfl ?_
    refine e_getR ci_X9 (dt dk_X9_done 8 rfl) rfl (by decide) rfl fl_X9_10 ?_
    refine e_aload_n (dt dk_X9_done 9 rfl) rfl ?_
    refine e_getR ci_X9 (dt dk_X9_done 10 rfl) rfl (by decide) rfl fl_X9_16 ?_
    refine ev_call (ca_V (k := 1) mv_X8_become (sp_X8_become_1_8 q1.2) (dt dk_X9_done 11 rfl) ml_X9_152 rfl rfl rfl rfl rfl (by decide) : Ca _ _ _ _ _ _ _ _ [] _ _) (fun q3 hq3 => ?_)
    show Ev _ _ _ _ _ _ 22 [some (.ref 0), some (.int q1.1)] [] q3 _
    refine e_aload_n (dt dk_X9_done 12 rfl) rfl ?_
    refine e_getR ci_X9 (dt dk_X9_done 13 rfl) rfl (by decide) rfl fl_X9_22 ?_
    refine e_iconst (v := (0 : Int32)) (dt dk_X9_done 14 rfl) (by decide) ?_
    refine e_putI (ty := .int) ci_X5 (dt dk_X9_done 15 rfl) rfl (by decide) rfl fl_X9_115 rfl (by decide +kernel) rfl rfl ?_
    refine e_aload_n (dt dk_X9_done 16 rfl) rfl ?_
    refine e_getR ci_X9 (dt dk_X9_done 17 rfl) rfl (by decide) rfl fl_X9_36 ?_
    refine e_getI (v := (q3 18 0)) ci_X7 (dt dk_X9_done 18 rfl) rfl (by decide) rfl fl_X9_156 rfl ?_
    exact e_iret (dt dk_X9_done 19 rfl) rfl rfl rfl
  · refine e_iload_n (dt dk_X9_done 5 rfl) rfl ?_
    exact e_iret (dt dk_X9_done 6 rfl) rfl rfl rfl
-- X9_alone (R, depth 2)
def bd_X9_alone_62  (K62 : Int32 → Int32 → Int32 → Int32 → Int32 → Option Int32) (v2 : Int32) (v3 : Int32) (v5 : Int32) (v6 : Int32) (v7 : Int32) : Option Int32 :=
  (if (99 : Int32) < v7 then some (-6 : Int32) else (if v6 = v5 then some v7 else (K62 v2 v3 v5 (f_X9_uncaged (f_X9_grown v6 v2) v3) (v7 + (1 : Int32)))))
set_option maxRecDepth 20000 in
set_option maxHeartbeats 2000000 in
theorem ev_bd_X9_alone_62 (M : Mem)  (K62 : Int32 → Int32 → Int32 → Int32 → Int32 → Option Int32)  (hK62 : ∀ (v2 : Int32) (v3 : Int32) (v5 : Int32) (v6 : Int32) (v7 : Int32), Ev none (wR M) RX9 cX9_alone (some .int) 2 62 [none, none, some (.int v2), some (.int v3), none, some (.int v5), some (.int v6), some (.int v7)] [] M (K62 v2 v3 v5 v6 v7)) (v2 : Int32) (v3 : Int32) (v5 : Int32) (v6 : Int32) (v7 : Int32) : Ev none (wR M) RX9 cX9_alone (some .int) 2 62 [none, none, some (.int v2), some (.int v3), none, some (.int v5), some (.int v6), some (.int v7)] [] M (bd_X9_alone_62 K62 v2 v3 v5 v6 v7) := by
  unfold bd_X9_alone_62
  refine e_iload (dt dk_X9_alone 32 rfl) rfl ?_
  refine e_bipush (v := (99 : Int32)) (dt dk_X9_alone 33 rfl) (by decide) ?_
  refine e_icmp_gt 97 (dt dk_X9_alone 34 rfl) (by decide) (fun h6 => ?_) (fun h6 => ?_)
  · refine e_bipush (v := (-6 : Int32)) (dt dk_X9_alone 48 rfl) (by decide) ?_
    exact e_iret (dt dk_X9_alone 49 rfl) rfl rfl rfl
  · refine e_iload (dt dk_X9_alone 35 rfl) rfl ?_
    refine e_iload (dt dk_X9_alone 36 rfl) rfl ?_
    refine e_icmp_ne 79 (dt dk_X9_alone 37 rfl) (by decide) (fun h7 => ?_) (fun h7 => ?_)
    · refine e_iload (dt dk_X9_alone 38 rfl) rfl ?_
      exact e_iret (dt dk_X9_alone 39 rfl) rfl rfl rfl
    · refine e_iload (dt dk_X9_alone 40 rfl) rfl ?_
      refine e_iload_n (dt dk_X9_alone 41 rfl) rfl ?_
      refine ev_callT (ca_S ms_X9_grown (sp_X9_grown v6 v2 M) (dt dk_X9_alone 42 rfl) ml_X9_163 rfl rfl rfl (by decide) : Ca _ _ _ _ _ _ _ _ [] _ _) ?_
      show Ev _ _ _ _ _ _ 85 [none, none, some (.int v2), some (.int v3), none, some (.int v5), some (.int v6), some (.int v7)] [.int (f_X9_grown v6 v2)] M _
      refine e_iload_n (dt dk_X9_alone 43 rfl) rfl ?_
      refine ev_callT (ca_S ms_X9_uncaged (sp_X9_uncaged (f_X9_grown v6 v2) v3 M) (dt dk_X9_alone 44 rfl) ml_X9_166 rfl rfl rfl (by decide) : Ca _ _ _ _ _ _ _ _ [] _ _) ?_
      show Ev _ _ _ _ _ _ 89 [none, none, some (.int v2), some (.int v3), none, some (.int v5), some (.int v6), some (.int v7)] [.int (f_X9_uncaged (f_X9_grown v6 v2) v3)] M _
      refine e_istore [none, none, some (.int v2), some (.int v3), none, some (.int v5), some (.int (f_X9_uncaged (f_X9_grown v6 v2) v3)), some (.int v7)] (dt dk_X9_alone 45 rfl) rfl rfl rfl ?_
      refine e_iinc [none, none, some (.int v2), some (.int v3), none, some (.int v5), some (.int (f_X9_uncaged (f_X9_grown v6 v2) v3)), some (.int (v7 + (1 : Int32)))] (dt dk_X9_alone 46 rfl) rfl rfl rfl rfl ?_
      refine e_goto 62 (dt dk_X9_alone 47 rfl) (by decide) ?_
      exact e_forget [false, false, true, true, false, true, true, true] [none, none, some (.int v2), some (.int v3), none, some (.int v5), some (.int (f_X9_uncaged (f_X9_grown v6 v2) v3)), some (.int (v7 + (1 : Int32)))] ⟨rfl, rfl⟩ (hK62 v2 v3 v5 (f_X9_uncaged (f_X9_grown v6 v2) v3) (v7 + (1 : Int32)))
def lp_X9_alone_62  : Nat → Int32 → Int32 → Int32 → Int32 → Int32 → Option Int32
  | 0 => fun _ _ _ _ _ => none
  | n + 1 => bd_X9_alone_62 (lp_X9_alone_62 n)
theorem ev_lp_X9_alone_62 (M : Mem)   : ∀ (n : Nat), ∀ (v2 : Int32) (v3 : Int32) (v5 : Int32) (v6 : Int32) (v7 : Int32), Ev none (wR M) RX9 cX9_alone (some .int) 2 62 [none, none, some (.int v2), some (.int v3), none, some (.int v5), some (.int v6), some (.int v7)] [] M (lp_X9_alone_62 n v2 v3 v5 v6 v7)
  | 0 => fun _ _ _ _ _ => e_none
  | n + 1 => ev_bd_X9_alone_62 M (lp_X9_alone_62 n) (ev_lp_X9_alone_62 M n)
def lb_X9_alone_54  (v1 : Int32) (v2 : Int32) (v3 : Int32) (s0 : Int32) : Option Int32 :=
  (lp_X9_alone_62 FU v2 v3 s0 v1 (0 : Int32))
set_option maxRecDepth 20000 in
set_option maxHeartbeats 2000000 in
theorem ev_lb_X9_alone_54 (M : Mem)   (v1 : Int32) (v2 : Int32) (v3 : Int32) (s0 : Int32) : Ev none (wR M) RX9 cX9_alone (some .int) 2 54 [none, some (.int v1), some (.int v2), some (.int v3), none, none, none, none] [.int s0] M (lb_X9_alone_54 v1 v2 v3 s0) := by
  unfold lb_X9_alone_54
  refine e_istore [none, some (.int v1), some (.int v2), some (.int v3), none, some (.int s0), none, none] (dt dk_X9_alone 27 rfl) rfl rfl rfl ?_
  refine e_iload_n (dt dk_X9_alone 28 rfl) rfl ?_
  refine e_istore [none, some (.int v1), some (.int v2), some (.int v3), none, some (.int s0), some (.int v1), none] (dt dk_X9_alone 29 rfl) rfl rfl rfl ?_
  refine e_iconst (v := (0 : Int32)) (dt dk_X9_alone 30 rfl) (by decide) ?_
  refine e_istore [none, some (.int v1), some (.int v2), some (.int v3), none, some (.int s0), some (.int v1), some (.int (0 : Int32))] (dt dk_X9_alone 31 rfl) rfl rfl rfl ?_
  exact e_forget [false, false, true, true, false, true, true, true] [none, none, some (.int v2), some (.int v3), none, some (.int s0), some (.int v1), some (.int (0 : Int32))] ⟨rfl, rfl⟩ (ev_lp_X9_alone_62 M FU v2 v3 s0 v1 (0 : Int32))
def f_X9_alone (v1 : Int32) (v2 : Int32) (v3 : Int32) (v4 : Int32) : Option Int32 :=
  (if (f_X9_within v1 (0 : Int32) (99 : Int32)) = 0 then some (-2 : Int32) else (if (f_X9_within v2 (0 : Int32) (9 : Int32)) = 0 then some (-2 : Int32) else (if (f_X9_within v3 (0 : Int32) (9 : Int32)) = 0 then some (-2 : Int32) else (if (f_X9_within v4 (0 : Int32) (1 : Int32)) = 0 then some (-2 : Int32) else (if v4 = 0 then (lb_X9_alone_54 v1 v2 v3 (0 : Int32)) else (lb_X9_alone_54 v1 v2 v3 (99 : Int32)))))))
set_option maxRecDepth 20000 in
set_option maxHeartbeats 2000000 in
theorem sp_X9_alone (v1 : Int32) (v2 : Int32) (v3 : Int32) (v4 : Int32) (M : Mem) : SpO (wR M) yX9_alone cX9_alone 8 (some .int) 2 [.ref 0, .int v1, .int v2, .int v3, .int v4] M (f_X9_alone v1 v2 v3 v4) := by
  refine sp_of (L := [some (.ref 0), some (.int v1), some (.int v2), some (.int v3), some (.int v4), none, none, none]) rfl (by decide +kernel) rfl rfl ?_
  unfold f_X9_alone
  refine e_iload_n (dt dk_X9_alone 0 rfl) rfl ?_
  refine e_iconst (v := (0 : Int32)) (dt dk_X9_alone 1 rfl) (by decide) ?_
  refine e_bipush (v := (99 : Int32)) (dt dk_X9_alone 2 rfl) (by decide) ?_
  refine ev_callT (ca_S ms_X9_within (sp_X9_within v1 (0 : Int32) (99 : Int32) M) (dt dk_X9_alone 3 rfl) ml_X9_79 rfl rfl rfl (by decide) : Ca _ _ _ _ _ _ _ _ [] _ _) ?_
  show Ev _ _ _ _ _ _ 7 [some (.ref 0), some (.int v1), some (.int v2), some (.int v3), some (.int v4), none, none, none] [.int (f_X9_within v1 (0 : Int32) (99 : Int32))] M _
  refine e_if_eq 40 (dt dk_X9_alone 4 rfl) (by decide) (fun h1 => ?_) (fun h1 => ?_)
  · refine e_bipush (v := (-2 : Int32)) (dt dk_X9_alone 20 rfl) (by decide) ?_
    exact e_iret (dt dk_X9_alone 21 rfl) rfl rfl rfl
  · refine e_iload_n (dt dk_X9_alone 5 rfl) rfl ?_
    refine e_iconst (v := (0 : Int32)) (dt dk_X9_alone 6 rfl) (by decide) ?_
    refine e_bipush (v := (9 : Int32)) (dt dk_X9_alone 7 rfl) (by decide) ?_
    refine ev_callT (ca_S ms_X9_within (sp_X9_within v2 (0 : Int32) (9 : Int32) M) (dt dk_X9_alone 8 rfl) ml_X9_79 rfl rfl rfl (by decide) : Ca _ _ _ _ _ _ _ _ [] _ _) ?_
    show Ev _ _ _ _ _ _ 17 [some (.ref 0), some (.int v1), some (.int v2), some (.int v3), some (.int v4), none, none, none] [.int (f_X9_within v2 (0 : Int32) (9 : Int32))] M _
    refine e_if_eq 40 (dt dk_X9_alone 9 rfl) (by decide) (fun h2 => ?_) (fun h2 => ?_)
    · refine e_bipush (v := (-2 : Int32)) (dt dk_X9_alone 20 rfl) (by decide) ?_
      exact e_iret (dt dk_X9_alone 21 rfl) rfl rfl rfl
    · refine e_iload_n (dt dk_X9_alone 10 rfl) rfl ?_
      refine e_iconst (v := (0 : Int32)) (dt dk_X9_alone 11 rfl) (by decide) ?_
      refine e_bipush (v := (9 : Int32)) (dt dk_X9_alone 12 rfl) (by decide) ?_
      refine ev_callT (ca_S ms_X9_within (sp_X9_within v3 (0 : Int32) (9 : Int32) M) (dt dk_X9_alone 13 rfl) ml_X9_79 rfl rfl rfl (by decide) : Ca _ _ _ _ _ _ _ _ [] _ _) ?_
      show Ev _ _ _ _ _ _ 27 [some (.ref 0), some (.int v1), some (.int v2), some (.int v3), some (.int v4), none, none, none] [.int (f_X9_within v3 (0 : Int32) (9 : Int32))] M _
      refine e_if_eq 40 (dt dk_X9_alone 14 rfl) (by decide) (fun h3 => ?_) (fun h3 => ?_)
      · refine e_bipush (v := (-2 : Int32)) (dt dk_X9_alone 20 rfl) (by decide) ?_
        exact e_iret (dt dk_X9_alone 21 rfl) rfl rfl rfl
      · refine e_iload (dt dk_X9_alone 15 rfl) rfl ?_
        refine e_iconst (v := (0 : Int32)) (dt dk_X9_alone 16 rfl) (by decide) ?_
        refine e_iconst (v := (1 : Int32)) (dt dk_X9_alone 17 rfl) (by decide) ?_
        refine ev_callT (ca_S ms_X9_within (sp_X9_within v4 (0 : Int32) (1 : Int32) M) (dt dk_X9_alone 18 rfl) ml_X9_79 rfl rfl rfl (by decide) : Ca _ _ _ _ _ _ _ _ [] _ _) ?_
        show Ev _ _ _ _ _ _ 37 [some (.ref 0), some (.int v1), some (.int v2), some (.int v3), some (.int v4), none, none, none] [.int (f_X9_within v4 (0 : Int32) (1 : Int32))] M _
        refine e_if_ne 43 (dt dk_X9_alone 19 rfl) (by decide) (fun h4 => ?_) (fun h4 => ?_)
        · refine e_bipush (v := (-2 : Int32)) (dt dk_X9_alone 20 rfl) (by decide) ?_
          exact e_iret (dt dk_X9_alone 21 rfl) rfl rfl rfl
        · refine e_iload (dt dk_X9_alone 22 rfl) rfl ?_
          refine e_if_ne 52 (dt dk_X9_alone 23 rfl) (by decide) (fun h5 => ?_) (fun h5 => ?_)
          · refine e_iconst (v := (0 : Int32)) (dt dk_X9_alone 24 rfl) (by decide) ?_
            refine e_goto 54 (dt dk_X9_alone 25 rfl) (by decide) ?_
            exact e_forget [false, true, true, true, false, false, false, false] [none, some (.int v1), some (.int v2), some (.int v3), none, none, none, none] ⟨rfl, rfl⟩ (ev_lb_X9_alone_54 M v1 v2 v3 (0 : Int32))
          · refine e_bipush (v := (99 : Int32)) (dt dk_X9_alone 26 rfl) (by decide) ?_
            exact e_forget [false, true, true, true, false, false, false, false] [none, some (.int v1), some (.int v2), some (.int v3), none, none, none, none] ⟨rfl, rfl⟩ (ev_lb_X9_alone_54 M v1 v2 v3 (99 : Int32))
-- X9_terriers (R, depth 1)
def bd_X9_terriers_20 (M : Mem)  (K20 : Int32 → Int32 → Int32 → Int32 → Option Int32) (v1 : Int32) (v2 : Int32) (v3 : Int32) (v4 : Int32) : Option Int32 :=
  (if (256 : Int32) ≤ v4 then (if v1 = 0 then some v2 else some v3) else (if v2 ≤ (f_J6_bitCount_0f7a4 v4) then (K20 v1 v2 v3 (v4 + (1 : Int32))) else ((f_X8_holesAllMeet_1 v4 M)).bind fun r5 => (if r5 = 0 then (K20 v1 v2 v3 (v4 + (1 : Int32))) else (K20 v1 (f_J6_bitCount_0f7a4 v4) v4 (v4 + (1 : Int32))))))
set_option maxRecDepth 20000 in
set_option maxHeartbeats 2000000 in
theorem ev_bd_X9_terriers_20 (M : Mem)  (K20 : Int32 → Int32 → Int32 → Int32 → Option Int32)  (hK20 : ∀ (v1 : Int32) (v2 : Int32) (v3 : Int32) (v4 : Int32), Ev none (wR M) RX9 cX9_terriers (some .int) 1 20 [some (.ref 0), some (.int v1), some (.int v2), some (.int v3), some (.int v4), none] [] M (K20 v1 v2 v3 v4)) (v1 : Int32) (v2 : Int32) (v3 : Int32) (v4 : Int32) : Ev none (wR M) RX9 cX9_terriers (some .int) 1 20 [some (.ref 0), some (.int v1), some (.int v2), some (.int v3), some (.int v4), none] [] M (bd_X9_terriers_20 M K20 v1 v2 v3 v4) := by
  unfold bd_X9_terriers_20
  refine e_iload (dt dk_X9_terriers 13 rfl) rfl ?_
  refine e_sipush (v := (256 : Int32)) (dt dk_X9_terriers 14 rfl) (by decide) ?_
  refine e_icmp_ge 65 (dt dk_X9_terriers 15 rfl) (by decide) (fun h2 => ?_) (fun h2 => ?_)
  · refine e_iload_n (dt dk_X9_terriers 33 rfl) rfl ?_
    refine e_if_ne 73 (dt dk_X9_terriers 34 rfl) (by decide) (fun h3 => ?_) (fun h3 => ?_)
    · refine e_iload_n (dt dk_X9_terriers 35 rfl) rfl ?_
      refine e_goto 74 (dt dk_X9_terriers 36 rfl) (by decide) ?_
      exact e_iret (dt dk_X9_terriers 38 rfl) rfl rfl rfl
    · refine e_iload_n (dt dk_X9_terriers 37 rfl) rfl ?_
      exact e_iret (dt dk_X9_terriers 38 rfl) rfl rfl rfl
  · refine e_iload (dt dk_X9_terriers 16 rfl) rfl ?_
    refine ev_callT (ca_S ms_J6_bitCount_0f7a4 (sp_J6_bitCount_0f7a4 v4 M) (dt dk_X9_terriers 17 rfl) ml_X9_169 rfl rfl rfl (by decide) : Ca _ _ _ _ _ _ _ _ [] _ _) ?_
    show Ev _ _ _ _ _ _ 33 [some (.ref 0), some (.int v1), some (.int v2), some (.int v3), some (.int v4), none] [.int (f_J6_bitCount_0f7a4 v4)] M _
    refine e_istore [some (.ref 0), some (.int v1), some (.int v2), some (.int v3), some (.int v4), some (.int (f_J6_bitCount_0f7a4 v4))] (dt dk_X9_terriers 18 rfl) rfl rfl rfl ?_
    refine e_iload (dt dk_X9_terriers 19 rfl) rfl ?_
    refine e_iload_n (dt dk_X9_terriers 20 rfl) rfl ?_
    refine e_icmp_ge 59 (dt dk_X9_terriers 21 rfl) (by decide) (fun h4 => ?_) (fun h4 => ?_)
    · refine e_iinc [some (.ref 0), some (.int v1), some (.int v2), some (.int v3), some (.int (v4 + (1 : Int32))), some (.int (f_J6_bitCount_0f7a4 v4))] (dt dk_X9_terriers 31 rfl) rfl rfl rfl rfl ?_
      refine e_goto 20 (dt dk_X9_terriers 32 rfl) (by decide) ?_
      exact e_forget [true, true, true, true, true, false] [some (.ref 0), some (.int v1), some (.int v2), some (.int v3), some (.int (v4 + (1 : Int32))), none] ⟨rfl, rfl⟩ (hK20 v1 v2 v3 (v4 + (1 : Int32)))
    · refine e_aload_n (dt dk_X9_terriers 22 rfl) rfl ?_
      refine e_getR ci_X9 (dt dk_X9_terriers 23 rfl) rfl (by decide) rfl fl_X9_10 ?_
      refine e_iload (dt dk_X9_terriers 24 rfl) rfl ?_
      refine ev_call (ca_V (k := 1) mv_X8_holesAllMeet (sp_X8_holesAllMeet_1 v4 M) (dt dk_X9_terriers 25 rfl) ml_X9_175 rfl rfl rfl rfl rfl (by decide) : Ca _ _ _ _ _ _ _ _ [] _ _) (fun r5 hr5 => ?_)
      show Ev _ _ _ _ _ _ 50 [some (.ref 0), some (.int v1), some (.int v2), some (.int v3), some (.int v4), some (.int (f_J6_bitCount_0f7a4 v4))] [.int r5] M _
      refine e_if_eq 59 (dt dk_X9_terriers 26 rfl) (by decide) (fun h6 => ?_) (fun h6 => ?_)
      · refine e_iinc [some (.ref 0), some (.int v1), some (.int v2), some (.int v3), some (.int (v4 + (1 : Int32))), some (.int (f_J6_bitCount_0f7a4 v4))] (dt dk_X9_terriers 31 rfl) rfl rfl rfl rfl ?_
        refine e_goto 20 (dt dk_X9_terriers 32 rfl) (by decide) ?_
        exact e_forget [true, true, true, true, true, false] [some (.ref 0), some (.int v1), some (.int v2), some (.int v3), some (.int (v4 + (1 : Int32))), none] ⟨rfl, rfl⟩ (hK20 v1 v2 v3 (v4 + (1 : Int32)))
      · refine e_iload (dt dk_X9_terriers 27 rfl) rfl ?_
        refine e_istore_n [some (.ref 0), some (.int v1), some (.int (f_J6_bitCount_0f7a4 v4)), some (.int v3), some (.int v4), some (.int (f_J6_bitCount_0f7a4 v4))] (dt dk_X9_terriers 28 rfl) rfl rfl rfl ?_
        refine e_iload (dt dk_X9_terriers 29 rfl) rfl ?_
        refine e_istore_n [some (.ref 0), some (.int v1), some (.int (f_J6_bitCount_0f7a4 v4)), some (.int v4), some (.int v4), some (.int (f_J6_bitCount_0f7a4 v4))] (dt dk_X9_terriers 30 rfl) rfl rfl rfl ?_
        refine e_iinc [some (.ref 0), some (.int v1), some (.int (f_J6_bitCount_0f7a4 v4)), some (.int v4), some (.int (v4 + (1 : Int32))), some (.int (f_J6_bitCount_0f7a4 v4))] (dt dk_X9_terriers 31 rfl) rfl rfl rfl rfl ?_
        refine e_goto 20 (dt dk_X9_terriers 32 rfl) (by decide) ?_
        exact e_forget [true, true, true, true, true, false] [some (.ref 0), some (.int v1), some (.int (f_J6_bitCount_0f7a4 v4)), some (.int v4), some (.int (v4 + (1 : Int32))), none] ⟨rfl, rfl⟩ (hK20 v1 (f_J6_bitCount_0f7a4 v4) v4 (v4 + (1 : Int32)))
def lp_X9_terriers_20 (M : Mem)  : Nat → Int32 → Int32 → Int32 → Int32 → Option Int32
  | 0 => fun _ _ _ _ => none
  | n + 1 => bd_X9_terriers_20 M (lp_X9_terriers_20 M n)
theorem ev_lp_X9_terriers_20 (M : Mem)   : ∀ (n : Nat), ∀ (v1 : Int32) (v2 : Int32) (v3 : Int32) (v4 : Int32), Ev none (wR M) RX9 cX9_terriers (some .int) 1 20 [some (.ref 0), some (.int v1), some (.int v2), some (.int v3), some (.int v4), none] [] M (lp_X9_terriers_20 M n v1 v2 v3 v4)
  | 0 => fun _ _ _ _ => e_none
  | n + 1 => ev_bd_X9_terriers_20 M (lp_X9_terriers_20 M n) (ev_lp_X9_terriers_20 M n)
def f_X9_terriers (v1 : Int32) (M : Mem) : Option Int32 :=
  (if (f_X9_within v1 (0 : Int32) (1 : Int32)) = 0 then some (-2 : Int32) else (lp_X9_terriers_20 M FU v1 (9 : Int32) (0 : Int32) (0 : Int32)))
set_option maxRecDepth 20000 in
set_option maxHeartbeats 2000000 in
theorem sp_X9_terriers (v1 : Int32) (M : Mem) : SpO (wR M) yX9_terriers cX9_terriers 6 (some .int) 1 [.ref 0, .int v1] M (f_X9_terriers v1 M) := by
  refine sp_of (L := [some (.ref 0), some (.int v1), none, none, none, none]) rfl (by decide +kernel) rfl rfl ?_
  unfold f_X9_terriers
  refine e_iload_n (dt dk_X9_terriers 0 rfl) rfl ?_
  refine e_iconst (v := (0 : Int32)) (dt dk_X9_terriers 1 rfl) (by decide) ?_
  refine e_iconst (v := (1 : Int32)) (dt dk_X9_terriers 2 rfl) (by decide) ?_
  refine ev_callT (ca_S ms_X9_within (sp_X9_within v1 (0 : Int32) (1 : Int32) M) (dt dk_X9_terriers 3 rfl) ml_X9_79 rfl rfl rfl (by decide) : Ca _ _ _ _ _ _ _ _ [] _ _) ?_
  show Ev _ _ _ _ _ _ 6 [some (.ref 0), some (.int v1), none, none, none, none] [.int (f_X9_within v1 (0 : Int32) (1 : Int32))] M _
  refine e_if_ne 12 (dt dk_X9_terriers 4 rfl) (by decide) (fun h1 => ?_) (fun h1 => ?_)
  · refine e_bipush (v := (-2 : Int32)) (dt dk_X9_terriers 5 rfl) (by decide) ?_
    exact e_iret (dt dk_X9_terriers 6 rfl) rfl rfl rfl
  · refine e_bipush (v := (9 : Int32)) (dt dk_X9_terriers 7 rfl) (by decide) ?_
    refine e_istore_n [some (.ref 0), some (.int v1), some (.int (9 : Int32)), none, none, none] (dt dk_X9_terriers 8 rfl) rfl rfl rfl ?_
    refine e_iconst (v := (0 : Int32)) (dt dk_X9_terriers 9 rfl) (by decide) ?_
    refine e_istore_n [some (.ref 0), some (.int v1), some (.int (9 : Int32)), some (.int (0 : Int32)), none, none] (dt dk_X9_terriers 10 rfl) rfl rfl rfl ?_
    refine e_iconst (v := (0 : Int32)) (dt dk_X9_terriers 11 rfl) (by decide) ?_
    refine e_istore [some (.ref 0), some (.int v1), some (.int (9 : Int32)), some (.int (0 : Int32)), some (.int (0 : Int32)), none] (dt dk_X9_terriers 12 rfl) rfl rfl rfl ?_
    exact e_forget [true, true, true, true, true, false] [some (.ref 0), some (.int v1), some (.int (9 : Int32)), some (.int (0 : Int32)), some (.int (0 : Int32)), none] ⟨rfl, rfl⟩ (ev_lp_X9_terriers_20 M FU v1 (9 : Int32) (0 : Int32) (0 : Int32))
-- X9_heard (W, depth 3)
def f_X9_heard (v1 : Int32) (v2 : Int32) (v3 : Int32) (v4 : Int32) (M : Mem) : Option (Int32 × Mem) :=
  (if (f_X9_within v3 (1 : Int32) (9 : Int32)) = 0 then some ((-2 : Int32), M) else (if (f_X9_within v4 (0 : Int32) (1 : Int32)) = 0 then some ((-2 : Int32), M) else if inb v3 10 then (if (f_X9_within v1 (0 : Int32) ((tensF (ix v3)) - (1 : Int32))) = 0 then some ((-2 : Int32), M) else (if (f_X9_within v2 (0 : Int32) ((tensF (ix v3)) - (1 : Int32))) = 0 then some ((-2 : Int32), M) else ((f_X2_listen_25 v1 v2 v3 M)).bind fun q6 => (if v4 = 0 then some ((q6 25 2), q6) else some ((q6 25 3), q6)))) else none))
set_option maxRecDepth 20000 in
set_option maxHeartbeats 2000000 in
theorem sp_X9_heard (v1 : Int32) (v2 : Int32) (v3 : Int32) (v4 : Int32) (M : Mem) : SpO wI yX9_heard cX9_heard 6 (some .int) 3 [.ref 0, .int v1, .int v2, .int v3, .int v4] M (f_X9_heard v1 v2 v3 v4 M) := by
  refine sp_of (L := [some (.ref 0), some (.int v1), some (.int v2), some (.int v3), some (.int v4), none]) rfl (by decide +kernel) rfl rfl ?_
  unfold f_X9_heard
  refine e_iload_n (dt dk_X9_heard 0 rfl) rfl ?_
  refine e_iconst (v := (1 : Int32)) (dt dk_X9_heard 1 rfl) (by decide) ?_
  refine e_bipush (v := (9 : Int32)) (dt dk_X9_heard 2 rfl) (by decide) ?_
  refine ev_callT (ca_S ms_X9_within (sp_X9_within v3 (1 : Int32) (9 : Int32) M) (dt dk_X9_heard 3 rfl) ml_X9_79 rfl rfl rfl (by decide) : Ca _ _ _ _ _ _ _ _ [] _ _) ?_
  show Ev _ _ _ _ _ _ 7 [some (.ref 0), some (.int v1), some (.int v2), some (.int v3), some (.int v4), none] [.int (f_X9_within v3 (1 : Int32) (9 : Int32))] M _
  refine e_if_eq 20 (dt dk_X9_heard 4 rfl) (by decide) (fun h1 => ?_) (fun h1 => ?_)
  · refine e_bipush (v := (-2 : Int32)) (dt dk_X9_heard 10 rfl) (by decide) ?_
    exact e_iret (dt dk_X9_heard 11 rfl) rfl rfl rfl
  · refine e_iload (dt dk_X9_heard 5 rfl) rfl ?_
    refine e_iconst (v := (0 : Int32)) (dt dk_X9_heard 6 rfl) (by decide) ?_
    refine e_iconst (v := (1 : Int32)) (dt dk_X9_heard 7 rfl) (by decide) ?_
    refine ev_callT (ca_S ms_X9_within (sp_X9_within v4 (0 : Int32) (1 : Int32) M) (dt dk_X9_heard 8 rfl) ml_X9_79 rfl rfl rfl (by decide) : Ca _ _ _ _ _ _ _ _ [] _ _) ?_
    show Ev _ _ _ _ _ _ 17 [some (.ref 0), some (.int v1), some (.int v2), some (.int v3), some (.int v4), none] [.int (f_X9_within v4 (0 : Int32) (1 : Int32))] M _
    refine e_if_ne 23 (dt dk_X9_heard 9 rfl) (by decide) (fun h2 => ?_) (fun h2 => ?_)
    · refine e_bipush (v := (-2 : Int32)) (dt dk_X9_heard 10 rfl) (by decide) ?_
      exact e_iret (dt dk_X9_heard 11 rfl) rfl rfl rfl
    · refine e_getsT (dt dk_X9_heard 12 rfl) fl_X9_178 ?_
      refine e_iload_n (dt dk_X9_heard 13 rfl) rfl ?_
      refine e_if (fun h3 => ?_)
      refine e_iaT' (dt dk_X9_heard 14 rfl) h3 ?_
      refine e_iconst (v := (1 : Int32)) (dt dk_X9_heard 15 rfl) (by decide) ?_
      refine e_isub (dt dk_X9_heard 16 rfl) ?_
      refine e_istore [some (.ref 0), some (.int v1), some (.int v2), some (.int v3), some (.int v4), some (.int ((tensF (ix v3)) - (1 : Int32)))] (dt dk_X9_heard 17 rfl) rfl rfl rfl ?_
      refine e_iload_n (dt dk_X9_heard 18 rfl) rfl ?_
      refine e_iconst (v := (0 : Int32)) (dt dk_X9_heard 19 rfl) (by decide) ?_
      refine e_iload (dt dk_X9_heard 20 rfl) rfl ?_
      refine ev_callT (ca_S ms_X9_within (sp_X9_within v1 (0 : Int32) ((tensF (ix v3)) - (1 : Int32)) M) (dt dk_X9_heard 21 rfl) ml_X9_79 rfl rfl rfl (by decide) : Ca _ _ _ _ _ _ _ _ [] _ _) ?_
      show Ev _ _ _ _ _ _ 39 [some (.ref 0), some (.int v1), some (.int v2), some (.int v3), some (.int v4), some (.int ((tensF (ix v3)) - (1 : Int32)))] [.int (f_X9_within v1 (0 : Int32) ((tensF (ix v3)) - (1 : Int32)))] M _
      refine e_if_eq 52 (dt dk_X9_heard 22 rfl) (by decide) (fun h4 => ?_) (fun h4 => ?_)
      · refine e_bipush (v := (-2 : Int32)) (dt dk_X9_heard 28 rfl) (by decide) ?_
        exact e_iret (dt dk_X9_heard 29 rfl) rfl rfl rfl
      · refine e_iload_n (dt dk_X9_heard 23 rfl) rfl ?_
        refine e_iconst (v := (0 : Int32)) (dt dk_X9_heard 24 rfl) (by decide) ?_
        refine e_iload (dt dk_X9_heard 25 rfl) rfl ?_
        refine ev_callT (ca_S ms_X9_within (sp_X9_within v2 (0 : Int32) ((tensF (ix v3)) - (1 : Int32)) M) (dt dk_X9_heard 26 rfl) ml_X9_79 rfl rfl rfl (by decide) : Ca _ _ _ _ _ _ _ _ [] _ _) ?_
        show Ev _ _ _ _ _ _ 49 [some (.ref 0), some (.int v1), some (.int v2), some (.int v3), some (.int v4), some (.int ((tensF (ix v3)) - (1 : Int32)))] [.int (f_X9_within v2 (0 : Int32) ((tensF (ix v3)) - (1 : Int32)))] M _
        refine e_if_ne 55 (dt dk_X9_heard 27 rfl) (by decide) (fun h5 => ?_) (fun h5 => ?_)
        · refine e_bipush (v := (-2 : Int32)) (dt dk_X9_heard 28 rfl) (by decide) ?_
          exact e_iret (dt dk_X9_heard 29 rfl) rfl rfl rfl
        · refine e_aload_n (dt dk_X9_heard 30 rfl) rfl ?_
          refine e_getR ci_X9 (dt dk_X9_heard 31 rfl) rfl (by decide) rfl fl_X9_57 ?_
          refine e_iload_n (dt dk_X9_heard 32 rfl) rfl ?_
          refine e_iload_n (dt dk_X9_heard 33 rfl) rfl ?_
          refine e_iload_n (dt dk_X9_heard 34 rfl) rfl ?_
          refine ev_call (ca_V (k := 25) mv_X2_listen (sp_X2_listen_25 v1 v2 v3 M) (dt dk_X9_heard 35 rfl) ml_X9_181 rfl rfl rfl rfl rfl (by decide) : Ca _ _ _ _ _ _ _ _ [] _ _) (fun q6 hq6 => ?_)
          show Ev _ _ _ _ _ _ 65 [some (.ref 0), some (.int v1), some (.int v2), some (.int v3), some (.int v4), some (.int ((tensF (ix v3)) - (1 : Int32)))] [] q6 _
          refine e_iload (dt dk_X9_heard 36 rfl) rfl ?_
          refine e_if_ne 80 (dt dk_X9_heard 37 rfl) (by decide) (fun h7 => ?_) (fun h7 => ?_)
          · refine e_aload_n (dt dk_X9_heard 38 rfl) rfl ?_
            refine e_getR ci_X9 (dt dk_X9_heard 39 rfl) rfl (by decide) rfl fl_X9_57 ?_
            refine e_getI (v := (q6 25 2)) ci_X2 (dt dk_X9_heard 40 rfl) rfl (by decide) rfl fl_X9_185 rfl ?_
            refine e_goto 87 (dt dk_X9_heard 41 rfl) (by decide) ?_
            exact e_iret (dt dk_X9_heard 45 rfl) rfl rfl rfl
          · refine e_aload_n (dt dk_X9_heard 42 rfl) rfl ?_
            refine e_getR ci_X9 (dt dk_X9_heard 43 rfl) rfl (by decide) rfl fl_X9_57 ?_
            refine e_getI (v := (q6 25 3)) ci_X2 (dt dk_X9_heard 44 rfl) rfl (by decide) rfl fl_X9_188 rfl ?_
            exact e_iret (dt dk_X9_heard 45 rfl) rfl rfl rfl
-- X9_gnawed (W, depth 2)
def f_X9_gnawed (v1 : Int32) (v2 : Int32) (M : Mem) : Option (Int32 × Mem) :=
  (if (f_X9_within v1 (0 : Int32) (40 : Int32)) = 0 then some ((-2 : Int32), M) else (if (f_X9_within v2 (0 : Int32) (99 : Int32)) = 0 then some ((-2 : Int32), M) else ((f_X6_add_19 v1 v2 M)).bind fun q3 => (if q3.1 = 0 then some ((-4 : Int32), q3.2) else some ((q3.2 19 1), q3.2))))
set_option maxRecDepth 20000 in
set_option maxHeartbeats 2000000 in
theorem sp_X9_gnawed (v1 : Int32) (v2 : Int32) (M : Mem) : SpO wI yX9_gnawed cX9_gnawed 3 (some .int) 2 [.ref 0, .int v1, .int v2] M (f_X9_gnawed v1 v2 M) := by
  refine sp_of (L := [some (.ref 0), some (.int v1), some (.int v2)]) rfl (by decide +kernel) rfl rfl ?_
  unfold f_X9_gnawed
  refine e_iload_n (dt dk_X9_gnawed 0 rfl) rfl ?_
  refine e_iconst (v := (0 : Int32)) (dt dk_X9_gnawed 1 rfl) (by decide) ?_
  refine e_bipush (v := (40 : Int32)) (dt dk_X9_gnawed 2 rfl) (by decide) ?_
  refine ev_callT (ca_S ms_X9_within (sp_X9_within v1 (0 : Int32) (40 : Int32) M) (dt dk_X9_gnawed 3 rfl) ml_X9_79 rfl rfl rfl (by decide) : Ca _ _ _ _ _ _ _ _ [] _ _) ?_
  show Ev _ _ _ _ _ _ 7 [some (.ref 0), some (.int v1), some (.int v2)] [.int (f_X9_within v1 (0 : Int32) (40 : Int32))] M _
  refine e_if_eq 20 (dt dk_X9_gnawed 4 rfl) (by decide) (fun h1 => ?_) (fun h1 => ?_)
  · refine e_bipush (v := (-2 : Int32)) (dt dk_X9_gnawed 10 rfl) (by decide) ?_
    exact e_iret (dt dk_X9_gnawed 11 rfl) rfl rfl rfl
  · refine e_iload_n (dt dk_X9_gnawed 5 rfl) rfl ?_
    refine e_iconst (v := (0 : Int32)) (dt dk_X9_gnawed 6 rfl) (by decide) ?_
    refine e_bipush (v := (99 : Int32)) (dt dk_X9_gnawed 7 rfl) (by decide) ?_
    refine ev_callT (ca_S ms_X9_within (sp_X9_within v2 (0 : Int32) (99 : Int32) M) (dt dk_X9_gnawed 8 rfl) ml_X9_79 rfl rfl rfl (by decide) : Ca _ _ _ _ _ _ _ _ [] _ _) ?_
    show Ev _ _ _ _ _ _ 17 [some (.ref 0), some (.int v1), some (.int v2)] [.int (f_X9_within v2 (0 : Int32) (99 : Int32))] M _
    refine e_if_ne 23 (dt dk_X9_gnawed 9 rfl) (by decide) (fun h2 => ?_) (fun h2 => ?_)
    · refine e_bipush (v := (-2 : Int32)) (dt dk_X9_gnawed 10 rfl) (by decide) ?_
      exact e_iret (dt dk_X9_gnawed 11 rfl) rfl rfl rfl
    · refine e_aload_n (dt dk_X9_gnawed 12 rfl) rfl ?_
      refine e_getR ci_X9 (dt dk_X9_gnawed 13 rfl) rfl (by decide) rfl fl_X9_43 ?_
      refine e_iload_n (dt dk_X9_gnawed 14 rfl) rfl ?_
      refine e_iload_n (dt dk_X9_gnawed 15 rfl) rfl ?_
      refine ev_call (ca_V (k := 19) mv_X6_add (sp_X6_add_19 v1 v2 M) (dt dk_X9_gnawed 16 rfl) ml_X9_191 rfl rfl rfl rfl rfl (by decide) : Ca _ _ _ _ _ _ _ _ [] _ _) (fun q3 hq3 => ?_)
      show Ev _ _ _ _ _ _ 32 [some (.ref 0), some (.int v1), some (.int v2)] [.int q3.1] q3.2 _
      refine e_if_eq 45 (dt dk_X9_gnawed 17 rfl) (by decide) (fun h4 => ?_) (fun h4 => ?_)
      · refine e_bipush (v := (-4 : Int32)) (dt dk_X9_gnawed 22 rfl) (by decide) ?_
        exact e_iret (dt dk_X9_gnawed 23 rfl) rfl rfl rfl
      · refine e_aload_n (dt dk_X9_gnawed 18 rfl) rfl ?_
        refine e_getR ci_X9 (dt dk_X9_gnawed 19 rfl) rfl (by decide) rfl fl_X9_43 ?_
        refine e_getI (v := (q3.2 19 1)) ci_X6 (dt dk_X9_gnawed 20 rfl) rfl (by decide) rfl fl_X9_193 rfl ?_
        refine e_goto 47 (dt dk_X9_gnawed 21 rfl) (by decide) ?_
        exact e_iret (dt dk_X9_gnawed 23 rfl) rfl rfl rfl
-- X9_forget (W, depth 2)
def f_X9_forget  (M : Mem) : Option (Int32 × Mem) :=
  ((f_X6_clear_19 M)).bind fun q1 => some ((M 19 1), q1)
set_option maxRecDepth 20000 in
set_option maxHeartbeats 2000000 in
theorem sp_X9_forget  (M : Mem) : SpO wI yX9_forget cX9_forget 2 (some .int) 2 [.ref 0] M (f_X9_forget M) := by
  refine sp_of (L := [some (.ref 0), none]) rfl (by decide +kernel) rfl rfl ?_
  unfold f_X9_forget
  refine e_aload_n (dt dk_X9_forget 0 rfl) rfl ?_
  refine e_getR ci_X9 (dt dk_X9_forget 1 rfl) rfl (by decide) rfl fl_X9_43 ?_
  refine e_getI (v := (M 19 1)) ci_X6 (dt dk_X9_forget 2 rfl) rfl (by decide) rfl fl_X9_193 rfl ?_
  refine e_istore_n [some (.ref 0), some (.int (M 19 1))] (dt dk_X9_forget 3 rfl) rfl rfl rfl ?_
  refine e_aload_n (dt dk_X9_forget 4 rfl) rfl ?_
  refine e_getR ci_X9 (dt dk_X9_forget 5 rfl) rfl (by decide) rfl fl_X9_43 ?_
  refine ev_call (ca_V (k := 19) mv_X6_clear (sp_X6_clear_19 M) (dt dk_X9_forget 6 rfl) ml_X9_194 rfl rfl rfl rfl rfl (by decide) : Ca _ _ _ _ _ _ _ _ [] _ _) (fun q1 hq1 => ?_)
  show Ev _ _ _ _ _ _ 15 [some (.ref 0), some (.int (M 19 1))] [] q1 _
  refine e_iload_n (dt dk_X9_forget 7 rfl) rfl ?_
  exact e_iret (dt dk_X9_forget 8 rfl) rfl rfl rfl
-- X9_fits (R, depth 3)
def bd_X9_fits_21 (M : Mem) (K12 : Int32 → Int32 → Int32 → Option Int32) (K21 : Int32 → Int32 → Int32 → Int32 → Option Int32) (v1 : Int32) (v2 : Int32) (v3 : Int32) (v4 : Int32) : Option Int32 :=
  (if (9 : Int32) < v4 then (K12 v1 v2 (v3 + (1 : Int32))) else ((f_X6_agree_19 v3 v4 M)).bind fun r5 => (if r5 = 0 then (K21 v1 v2 v3 (v4 + (1 : Int32))) else (if v2 = v1 then some (((10 : Int32) * v3) + v4) else (K21 v1 (v2 + (1 : Int32)) v3 (v4 + (1 : Int32))))))
set_option maxRecDepth 20000 in
set_option maxHeartbeats 2000000 in
theorem ev_bd_X9_fits_21 (M : Mem) (K12 : Int32 → Int32 → Int32 → Option Int32) (K21 : Int32 → Int32 → Int32 → Int32 → Option Int32) (hK12 : ∀ (v1 : Int32) (v2 : Int32) (v3 : Int32), Ev none (wR M) RX9 cX9_fits (some .int) 3 12 [some (.ref 0), some (.int v1), some (.int v2), some (.int v3), none] [] M (K12 v1 v2 v3)) (hK21 : ∀ (v1 : Int32) (v2 : Int32) (v3 : Int32) (v4 : Int32), Ev none (wR M) RX9 cX9_fits (some .int) 3 21 [some (.ref 0), some (.int v1), some (.int v2), some (.int v3), some (.int v4)] [] M (K21 v1 v2 v3 v4)) (v1 : Int32) (v2 : Int32) (v3 : Int32) (v4 : Int32) : Ev none (wR M) RX9 cX9_fits (some .int) 3 21 [some (.ref 0), some (.int v1), some (.int v2), some (.int v3), some (.int v4)] [] M (bd_X9_fits_21 M K12 K21 v1 v2 v3 v4) := by
  unfold bd_X9_fits_21
  refine e_iload (dt dk_X9_fits 14 rfl) rfl ?_
  refine e_bipush (v := (9 : Int32)) (dt dk_X9_fits 15 rfl) (by decide) ?_
  refine e_icmp_gt 63 (dt dk_X9_fits 16 rfl) (by decide) (fun h4 => ?_) (fun h4 => ?_)
  · refine e_iinc [some (.ref 0), some (.int v1), some (.int v2), some (.int (v3 + (1 : Int32))), some (.int v4)] (dt dk_X9_fits 35 rfl) rfl rfl rfl rfl ?_
    refine e_goto 12 (dt dk_X9_fits 36 rfl) (by decide) ?_
    exact e_forget [true, true, true, true, false] [some (.ref 0), some (.int v1), some (.int v2), some (.int (v3 + (1 : Int32))), none] ⟨rfl, rfl⟩ (hK12 v1 v2 (v3 + (1 : Int32)))
  · refine e_aload_n (dt dk_X9_fits 17 rfl) rfl ?_
    refine e_getR ci_X9 (dt dk_X9_fits 18 rfl) rfl (by decide) rfl fl_X9_43 ?_
    refine e_iload_n (dt dk_X9_fits 19 rfl) rfl ?_
    refine e_iload (dt dk_X9_fits 20 rfl) rfl ?_
    refine ev_call (ca_V (k := 19) mv_X6_agree (sp_X6_agree_19 v3 v4 M) (dt dk_X9_fits 21 rfl) ml_X9_197 rfl rfl rfl rfl rfl (by decide) : Ca _ _ _ _ _ _ _ _ [] _ _) (fun r5 hr5 => ?_)
    show Ev _ _ _ _ _ _ 38 [some (.ref 0), some (.int v1), some (.int v2), some (.int v3), some (.int v4)] [.int r5] M _
    refine e_if_eq 57 (dt dk_X9_fits 22 rfl) (by decide) (fun h6 => ?_) (fun h6 => ?_)
    · refine e_iinc [some (.ref 0), some (.int v1), some (.int v2), some (.int v3), some (.int (v4 + (1 : Int32)))] (dt dk_X9_fits 33 rfl) rfl rfl rfl rfl ?_
      refine e_goto 21 (dt dk_X9_fits 34 rfl) (by decide) ?_
      exact e_forget [true, true, true, true, true] [some (.ref 0), some (.int v1), some (.int v2), some (.int v3), some (.int (v4 + (1 : Int32)))] ⟨rfl, rfl⟩ (hK21 v1 v2 v3 (v4 + (1 : Int32)))
    · refine e_iload_n (dt dk_X9_fits 23 rfl) rfl ?_
      refine e_iload_n (dt dk_X9_fits 24 rfl) rfl ?_
      refine e_icmp_ne 54 (dt dk_X9_fits 25 rfl) (by decide) (fun h7 => ?_) (fun h7 => ?_)
      · refine e_bipush (v := (10 : Int32)) (dt dk_X9_fits 26 rfl) (by decide) ?_
        refine e_iload_n (dt dk_X9_fits 27 rfl) rfl ?_
        refine e_imul (dt dk_X9_fits 28 rfl) ?_
        refine e_iload (dt dk_X9_fits 29 rfl) rfl ?_
        refine e_iadd (dt dk_X9_fits 30 rfl) ?_
        exact e_iret (dt dk_X9_fits 31 rfl) rfl rfl rfl
      · refine e_iinc [some (.ref 0), some (.int v1), some (.int (v2 + (1 : Int32))), some (.int v3), some (.int v4)] (dt dk_X9_fits 32 rfl) rfl rfl rfl rfl ?_
        refine e_iinc [some (.ref 0), some (.int v1), some (.int (v2 + (1 : Int32))), some (.int v3), some (.int (v4 + (1 : Int32)))] (dt dk_X9_fits 33 rfl) rfl rfl rfl rfl ?_
        refine e_goto 21 (dt dk_X9_fits 34 rfl) (by decide) ?_
        exact e_forget [true, true, true, true, true] [some (.ref 0), some (.int v1), some (.int (v2 + (1 : Int32))), some (.int v3), some (.int (v4 + (1 : Int32)))] ⟨rfl, rfl⟩ (hK21 v1 (v2 + (1 : Int32)) v3 (v4 + (1 : Int32)))
def lp_X9_fits_21 (M : Mem) (K12 : Int32 → Int32 → Int32 → Option Int32) : Nat → Int32 → Int32 → Int32 → Int32 → Option Int32
  | 0 => fun _ _ _ _ => none
  | n + 1 => bd_X9_fits_21 M K12 (lp_X9_fits_21 M K12 n)
theorem ev_lp_X9_fits_21 (M : Mem) (K12 : Int32 → Int32 → Int32 → Option Int32) (hK12 : ∀ (v1 : Int32) (v2 : Int32) (v3 : Int32), Ev none (wR M) RX9 cX9_fits (some .int) 3 12 [some (.ref 0), some (.int v1), some (.int v2), some (.int v3), none] [] M (K12 v1 v2 v3)) : ∀ (n : Nat), ∀ (v1 : Int32) (v2 : Int32) (v3 : Int32) (v4 : Int32), Ev none (wR M) RX9 cX9_fits (some .int) 3 21 [some (.ref 0), some (.int v1), some (.int v2), some (.int v3), some (.int v4)] [] M (lp_X9_fits_21 M K12 n v1 v2 v3 v4)
  | 0 => fun _ _ _ _ => e_none
  | n + 1 => ev_bd_X9_fits_21 M K12 (lp_X9_fits_21 M K12 n) hK12 (ev_lp_X9_fits_21 M K12 hK12 n)
def bd_X9_fits_12 (M : Mem)  (K12 : Int32 → Int32 → Int32 → Option Int32) (v1 : Int32) (v2 : Int32) (v3 : Int32) : Option Int32 :=
  (if (9 : Int32) < v3 then (if v1 = (-1 : Int32) then some v2 else some (-6 : Int32)) else (lp_X9_fits_21 M K12 FU v1 v2 v3 (0 : Int32)))
set_option maxRecDepth 20000 in
set_option maxHeartbeats 2000000 in
theorem ev_bd_X9_fits_12 (M : Mem)  (K12 : Int32 → Int32 → Int32 → Option Int32)  (hK12 : ∀ (v1 : Int32) (v2 : Int32) (v3 : Int32), Ev none (wR M) RX9 cX9_fits (some .int) 3 12 [some (.ref 0), some (.int v1), some (.int v2), some (.int v3), none] [] M (K12 v1 v2 v3)) (v1 : Int32) (v2 : Int32) (v3 : Int32) : Ev none (wR M) RX9 cX9_fits (some .int) 3 12 [some (.ref 0), some (.int v1), some (.int v2), some (.int v3), none] [] M (bd_X9_fits_12 M K12 v1 v2 v3) := by
  unfold bd_X9_fits_12
  refine e_iload_n (dt dk_X9_fits 9 rfl) rfl ?_
  refine e_bipush (v := (9 : Int32)) (dt dk_X9_fits 10 rfl) (by decide) ?_
  refine e_icmp_gt 69 (dt dk_X9_fits 11 rfl) (by decide) (fun h2 => ?_) (fun h2 => ?_)
  · refine e_iload_n (dt dk_X9_fits 37 rfl) rfl ?_
    refine e_iconst (v := (-1 : Int32)) (dt dk_X9_fits 38 rfl) (by decide) ?_
    refine e_icmp_ne 78 (dt dk_X9_fits 39 rfl) (by decide) (fun h3 => ?_) (fun h3 => ?_)
    · refine e_iload_n (dt dk_X9_fits 40 rfl) rfl ?_
      refine e_goto 80 (dt dk_X9_fits 41 rfl) (by decide) ?_
      exact e_iret (dt dk_X9_fits 43 rfl) rfl rfl rfl
    · refine e_bipush (v := (-6 : Int32)) (dt dk_X9_fits 42 rfl) (by decide) ?_
      exact e_iret (dt dk_X9_fits 43 rfl) rfl rfl rfl
  · refine e_iconst (v := (0 : Int32)) (dt dk_X9_fits 12 rfl) (by decide) ?_
    refine e_istore [some (.ref 0), some (.int v1), some (.int v2), some (.int v3), some (.int (0 : Int32))] (dt dk_X9_fits 13 rfl) rfl rfl rfl ?_
    exact e_forget [true, true, true, true, true] [some (.ref 0), some (.int v1), some (.int v2), some (.int v3), some (.int (0 : Int32))] ⟨rfl, rfl⟩ (ev_lp_X9_fits_21 M K12 hK12 FU v1 v2 v3 (0 : Int32))
def lp_X9_fits_12 (M : Mem)  : Nat → Int32 → Int32 → Int32 → Option Int32
  | 0 => fun _ _ _ => none
  | n + 1 => bd_X9_fits_12 M (lp_X9_fits_12 M n)
theorem ev_lp_X9_fits_12 (M : Mem)   : ∀ (n : Nat), ∀ (v1 : Int32) (v2 : Int32) (v3 : Int32), Ev none (wR M) RX9 cX9_fits (some .int) 3 12 [some (.ref 0), some (.int v1), some (.int v2), some (.int v3), none] [] M (lp_X9_fits_12 M n v1 v2 v3)
  | 0 => fun _ _ _ => e_none
  | n + 1 => ev_bd_X9_fits_12 M (lp_X9_fits_12 M n) (ev_lp_X9_fits_12 M n)
def f_X9_fits (v1 : Int32) (M : Mem) : Option Int32 :=
  (if (-1 : Int32) ≤ v1 then (lp_X9_fits_12 M FU v1 (0 : Int32) (1 : Int32)) else some (-6 : Int32))
set_option maxRecDepth 20000 in
set_option maxHeartbeats 2000000 in
theorem sp_X9_fits (v1 : Int32) (M : Mem) : SpO (wR M) yX9_fits cX9_fits 5 (some .int) 3 [.ref 0, .int v1] M (f_X9_fits v1 M) := by
  refine sp_of (L := [some (.ref 0), some (.int v1), none, none, none]) rfl (by decide +kernel) rfl rfl ?_
  unfold f_X9_fits
  refine e_iload_n (dt dk_X9_fits 0 rfl) rfl ?_
  refine e_iconst (v := (-1 : Int32)) (dt dk_X9_fits 1 rfl) (by decide) ?_
  refine e_icmp_ge 8 (dt dk_X9_fits 2 rfl) (by decide) (fun h1 => ?_) (fun h1 => ?_)
  · refine e_iconst (v := (0 : Int32)) (dt dk_X9_fits 5 rfl) (by decide) ?_
    refine e_istore_n [some (.ref 0), some (.int v1), some (.int (0 : Int32)), none, none] (dt dk_X9_fits 6 rfl) rfl rfl rfl ?_
    refine e_iconst (v := (1 : Int32)) (dt dk_X9_fits 7 rfl) (by decide) ?_
    refine e_istore_n [some (.ref 0), some (.int v1), some (.int (0 : Int32)), some (.int (1 : Int32)), none] (dt dk_X9_fits 8 rfl) rfl rfl rfl ?_
    exact e_forget [true, true, true, true, false] [some (.ref 0), some (.int v1), some (.int (0 : Int32)), some (.int (1 : Int32)), none] ⟨rfl, rfl⟩ (ev_lp_X9_fits_12 M FU v1 (0 : Int32) (1 : Int32))
  · refine e_bipush (v := (-6 : Int32)) (dt dk_X9_fits 3 rfl) (by decide) ?_
    exact e_iret (dt dk_X9_fits 4 rfl) rfl rfl rfl
-- X9_ask (W, depth 5)
def f_X9_ask (v1 : Int32) (M : Mem) : Option (Int32 × Mem) :=
  (if (f_X9_within v1 (0 : Int32) (1 : Int32)) = 0 then some ((-2 : Int32), M) else ((f_X1_weigh_21_19 M)).bind fun q2 => (if v1 = 0 then some ((q2 21 4), q2) else some ((q2 21 5), q2)))
set_option maxRecDepth 20000 in
set_option maxHeartbeats 2000000 in
theorem sp_X9_ask (v1 : Int32) (M : Mem) : SpO wI yX9_ask cX9_ask 2 (some .int) 5 [.ref 0, .int v1] M (f_X9_ask v1 M) := by
  refine sp_of (L := [some (.ref 0), some (.int v1)]) rfl (by decide +kernel) rfl rfl ?_
  unfold f_X9_ask
  refine e_iload_n (dt dk_X9_ask 0 rfl) rfl ?_
  refine e_iconst (v := (0 : Int32)) (dt dk_X9_ask 1 rfl) (by decide) ?_
  refine e_iconst (v := (1 : Int32)) (dt dk_X9_ask 2 rfl) (by decide) ?_
  refine ev_callT (ca_S ms_X9_within (sp_X9_within v1 (0 : Int32) (1 : Int32) M) (dt dk_X9_ask 3 rfl) ml_X9_79 rfl rfl rfl (by decide) : Ca _ _ _ _ _ _ _ _ [] _ _) ?_
  show Ev _ _ _ _ _ _ 6 [some (.ref 0), some (.int v1)] [.int (f_X9_within v1 (0 : Int32) (1 : Int32))] M _
  refine e_if_ne 12 (dt dk_X9_ask 4 rfl) (by decide) (fun h1 => ?_) (fun h1 => ?_)
  · refine e_bipush (v := (-2 : Int32)) (dt dk_X9_ask 5 rfl) (by decide) ?_
    exact e_iret (dt dk_X9_ask 6 rfl) rfl rfl rfl
  · refine e_aload_n (dt dk_X9_ask 7 rfl) rfl ?_
    refine e_getR ci_X9 (dt dk_X9_ask 8 rfl) rfl (by decide) rfl fl_X9_50 ?_
    refine e_aload_n (dt dk_X9_ask 9 rfl) rfl ?_
    refine e_getR ci_X9 (dt dk_X9_ask 10 rfl) rfl (by decide) rfl fl_X9_43 ?_
    refine ev_call (ca_V (k := 21) mv_X1_weigh (sp_X1_weigh_21_19 M) (dt dk_X9_ask 11 rfl) ml_X9_200 rfl rfl rfl rfl rfl (by decide) : Ca _ _ _ _ _ _ _ _ [] _ _) (fun q2 hq2 => ?_)
    show Ev _ _ _ _ _ _ 23 [some (.ref 0), some (.int v1)] [] q2 _
    refine e_iload_n (dt dk_X9_ask 12 rfl) rfl ?_
    refine e_if_ne 37 (dt dk_X9_ask 13 rfl) (by decide) (fun h3 => ?_) (fun h3 => ?_)
    · refine e_aload_n (dt dk_X9_ask 14 rfl) rfl ?_
      refine e_getR ci_X9 (dt dk_X9_ask 15 rfl) rfl (by decide) rfl fl_X9_50 ?_
      refine e_getI (v := (q2 21 4)) ci_X1 (dt dk_X9_ask 16 rfl) rfl (by decide) rfl fl_X9_204 rfl ?_
      refine e_goto 44 (dt dk_X9_ask 17 rfl) (by decide) ?_
      exact e_iret (dt dk_X9_ask 21 rfl) rfl rfl rfl
    · refine e_aload_n (dt dk_X9_ask 18 rfl) rfl ?_
      refine e_getR ci_X9 (dt dk_X9_ask 19 rfl) rfl (by decide) rfl fl_X9_50 ?_
      refine e_getI (v := (q2 21 5)) ci_X1 (dt dk_X9_ask 20 rfl) rfl (by decide) rfl fl_X9_205 rfl ?_
      exact e_iret (dt dk_X9_ask 21 rfl) rfl rfl rfl
-- X9_chase (W, depth 2)
def f_X9_chase (v1 : Int32) (v2 : Int32) (v3 : Int32) (M : Mem) : Option (Int32 × Mem) :=
  (if (f_X9_isHouse v1) = 0 then some ((-1 : Int32), M) else (if (f_X9_isHouse v2) = 0 then some ((-1 : Int32), M) else (if (f_X9_within v3 (0 : Int32) (1 : Int32)) = 0 then some ((-2 : Int32), M) else ((f_X3_follow_28_6 v1 v2 M)).bind fun q4 => (if v3 = 0 then some ((q4 28 3), q4) else some ((q4 28 4), q4)))))
set_option maxRecDepth 20000 in
set_option maxHeartbeats 2000000 in
theorem sp_X9_chase (v1 : Int32) (v2 : Int32) (v3 : Int32) (M : Mem) : SpO wI yX9_chase cX9_chase 4 (some .int) 2 [.ref 0, .int v1, .int v2, .int v3] M (f_X9_chase v1 v2 v3 M) := by
  refine sp_of (L := [some (.ref 0), some (.int v1), some (.int v2), some (.int v3)]) rfl (by decide +kernel) rfl rfl ?_
  unfold f_X9_chase
  refine e_iload_n (dt dk_X9_chase 0 rfl) rfl ?_
  refine ev_callT (ca_S ms_X9_isHouse (sp_X9_isHouse v1 M) (dt dk_X9_chase 1 rfl) ml_X9_75 rfl rfl rfl (by decide) : Ca _ _ _ _ _ _ _ _ [] _ _) ?_
  show Ev _ _ _ _ _ _ 4 [some (.ref 0), some (.int v1), some (.int v2), some (.int v3)] [.int (f_X9_isHouse v1)] M _
  refine e_if_eq 14 (dt dk_X9_chase 2 rfl) (by decide) (fun h1 => ?_) (fun h1 => ?_)
  · refine e_iconst (v := (-1 : Int32)) (dt dk_X9_chase 6 rfl) (by decide) ?_
    exact e_iret (dt dk_X9_chase 7 rfl) rfl rfl rfl
  · refine e_iload_n (dt dk_X9_chase 3 rfl) rfl ?_
    refine ev_callT (ca_S ms_X9_isHouse (sp_X9_isHouse v2 M) (dt dk_X9_chase 4 rfl) ml_X9_75 rfl rfl rfl (by decide) : Ca _ _ _ _ _ _ _ _ [] _ _) ?_
    show Ev _ _ _ _ _ _ 11 [some (.ref 0), some (.int v1), some (.int v2), some (.int v3)] [.int (f_X9_isHouse v2)] M _
    refine e_if_ne 16 (dt dk_X9_chase 5 rfl) (by decide) (fun h2 => ?_) (fun h2 => ?_)
    · refine e_iconst (v := (-1 : Int32)) (dt dk_X9_chase 6 rfl) (by decide) ?_
      exact e_iret (dt dk_X9_chase 7 rfl) rfl rfl rfl
    · refine e_iload_n (dt dk_X9_chase 8 rfl) rfl ?_
      refine e_iconst (v := (0 : Int32)) (dt dk_X9_chase 9 rfl) (by decide) ?_
      refine e_iconst (v := (1 : Int32)) (dt dk_X9_chase 10 rfl) (by decide) ?_
      refine ev_callT (ca_S ms_X9_within (sp_X9_within v3 (0 : Int32) (1 : Int32) M) (dt dk_X9_chase 11 rfl) ml_X9_79 rfl rfl rfl (by decide) : Ca _ _ _ _ _ _ _ _ [] _ _) ?_
      show Ev _ _ _ _ _ _ 22 [some (.ref 0), some (.int v1), some (.int v2), some (.int v3)] [.int (f_X9_within v3 (0 : Int32) (1 : Int32))] M _
      refine e_if_ne 28 (dt dk_X9_chase 12 rfl) (by decide) (fun h3 => ?_) (fun h3 => ?_)
      · refine e_bipush (v := (-2 : Int32)) (dt dk_X9_chase 13 rfl) (by decide) ?_
        exact e_iret (dt dk_X9_chase 14 rfl) rfl rfl rfl
      · refine e_aload_n (dt dk_X9_chase 15 rfl) rfl ?_
        refine e_getR ci_X9 (dt dk_X9_chase 16 rfl) rfl (by decide) rfl fl_X9_64 ?_
        refine e_aload_n (dt dk_X9_chase 17 rfl) rfl ?_
        refine e_getR ci_X9 (dt dk_X9_chase 18 rfl) rfl (by decide) rfl fl_X9_10 ?_
        refine e_getR ci_X8 (dt dk_X9_chase 19 rfl) rfl (by decide) rfl fl_X9_208 ?_
        refine e_iload_n (dt dk_X9_chase 20 rfl) rfl ?_
        refine e_iload_n (dt dk_X9_chase 21 rfl) rfl ?_
        refine ev_call (ca_V (k := 28) mv_X3_follow (sp_X3_follow_28_6 v1 v2 M) (dt dk_X9_chase 22 rfl) ml_X9_211 rfl rfl rfl rfl rfl (by decide) : Ca _ _ _ _ _ _ _ _ [] _ _) (fun q4 hq4 => ?_)
        show Ev _ _ _ _ _ _ 44 [some (.ref 0), some (.int v1), some (.int v2), some (.int v3)] [] q4 _
        refine e_iload_n (dt dk_X9_chase 23 rfl) rfl ?_
        refine e_if_ne 58 (dt dk_X9_chase 24 rfl) (by decide) (fun h5 => ?_) (fun h5 => ?_)
        · refine e_aload_n (dt dk_X9_chase 25 rfl) rfl ?_
          refine e_getR ci_X9 (dt dk_X9_chase 26 rfl) rfl (by decide) rfl fl_X9_64 ?_
          refine e_getI (v := (q4 28 3)) ci_X3 (dt dk_X9_chase 27 rfl) rfl (by decide) rfl fl_X9_214 rfl ?_
          refine e_goto 65 (dt dk_X9_chase 28 rfl) (by decide) ?_
          exact e_iret (dt dk_X9_chase 32 rfl) rfl rfl rfl
        · refine e_aload_n (dt dk_X9_chase 29 rfl) rfl ?_
          refine e_getR ci_X9 (dt dk_X9_chase 30 rfl) rfl (by decide) rfl fl_X9_64 ?_
          refine e_getI (v := (q4 28 4)) ci_X3 (dt dk_X9_chase 31 rfl) rfl (by decide) rfl fl_X9_217 rfl ?_
          exact e_iret (dt dk_X9_chase 32 rfl) rfl rfl rfl
-- X9_ever (R, depth 1)
def lb_X9_ever_144  (v4 : Int32) (v9 : Int64) (v11 : Int64) (v13 : Int64) : Option Int64 :=
  (if v4 = 0 then if v13 = 0 then none else some (v9 / v13) else if v13 = 0 then none else some (v11 / v13))
set_option maxRecDepth 20000 in
set_option maxHeartbeats 2000000 in
theorem ev_lb_X9_ever_144 (M : Mem)   (v4 : Int32) (v9 : Int64) (v11 : Int64) (v13 : Int64) : Ev none (wL M) RX9 cX9_ever (some .long) 1 144 [none, none, none, none, some (.int v4), none, none, none, none, some (.long v9), none, some (.long v11), none, some (.long v13), none] [] M (lb_X9_ever_144 v4 v9 v11 v13) := by
  unfold lb_X9_ever_144
  refine e_iload (dt dk_X9_ever 80 rfl) rfl ?_
  refine e_if_ne 154 (dt dk_X9_ever 81 rfl) (by decide) (fun h8 => ?_) (fun h8 => ?_)
  · refine e_lload (dt dk_X9_ever 82 rfl) rfl ?_
    refine e_goto 156 (dt dk_X9_ever 83 rfl) (by decide) ?_
    refine e_lload (dt dk_X9_ever 85 rfl) rfl ?_
    refine e_ldiv (dt dk_X9_ever 86 rfl) ?_
    show Ev _ _ _ _ _ _ 159 [none, none, none, none, some (.int v4), none, none, none, none, some (.long v9), none, some (.long v11), none, some (.long v13), none] [.long (v9 / v13)] M _
    exact e_lret (dt dk_X9_ever 87 rfl) rfl rfl
  · refine e_lload (dt dk_X9_ever 84 rfl) rfl ?_
    refine e_lload (dt dk_X9_ever 85 rfl) rfl ?_
    refine e_ldiv (dt dk_X9_ever 86 rfl) ?_
    show Ev _ _ _ _ _ _ 159 [none, none, none, none, some (.int v4), none, none, none, none, some (.long v9), none, some (.long v11), none, some (.long v13), none] [.long (v11 / v13)] M _
    exact e_lret (dt dk_X9_ever 87 rfl) rfl rfl
def lb_X9_ever_111  (v4 : Int32) (v9 : Int64) (v11 : Int64) : Option Int64 :=
  ((f_X9_commonDivisor (absL v9) (absL v11))).bind fun r6 => (if 0 ≤ (lg_cmp r6 (1 : Int64)) then (lb_X9_ever_144 v4 (absL v9) (absL v11) r6) else (lb_X9_ever_144 v4 (absL v9) (absL v11) (1 : Int64)))
set_option maxRecDepth 20000 in
set_option maxHeartbeats 2000000 in
theorem ev_lb_X9_ever_111 (M : Mem)   (v4 : Int32) (v9 : Int64) (v11 : Int64) : Ev none (wL M) RX9 cX9_ever (some .long) 1 111 [none, none, none, none, some (.int v4), none, none, none, none, some (.long v9), none, some (.long v11), none, none, none] [] M (lb_X9_ever_111 v4 v9 v11) := by
  unfold lb_X9_ever_111
  refine e_lload (dt dk_X9_ever 64 rfl) rfl ?_
  refine e_absl ok_abs (dt dk_X9_ever 65 rfl) ml_X9_226 rfl (by decide) ?_
  show Ev _ _ _ _ _ _ 116 [none, none, none, none, some (.int v4), none, none, none, none, some (.long v9), none, some (.long v11), none, none, none] [.long (absL v9)] M _
  refine e_lstore [none, none, none, none, some (.int v4), none, none, none, none, some (.long (absL v9)), none, some (.long v11), none, none, none] (dt dk_X9_ever 66 rfl) rfl rfl rfl ?_
  refine e_lload (dt dk_X9_ever 67 rfl) rfl ?_
  refine e_absl ok_abs (dt dk_X9_ever 68 rfl) ml_X9_226 rfl (by decide) ?_
  show Ev _ _ _ _ _ _ 123 [none, none, none, none, some (.int v4), none, none, none, none, some (.long (absL v9)), none, some (.long v11), none, none, none] [.long (absL v11)] M _
  refine e_lstore [none, none, none, none, some (.int v4), none, none, none, none, some (.long (absL v9)), none, some (.long (absL v11)), none, none, none] (dt dk_X9_ever 69 rfl) rfl rfl rfl ?_
  refine e_lload (dt dk_X9_ever 70 rfl) rfl ?_
  refine e_lload (dt dk_X9_ever 71 rfl) rfl ?_
  refine ev_call (ca_S ms_X9_commonDivisor (sp_X9_commonDivisor (absL v9) (absL v11) M) (dt dk_X9_ever 72 rfl) ml_X9_232 rfl rfl rfl (by decide) : Ca _ _ _ _ _ _ _ _ [] _ _) (fun r6 hr6 => ?_)
  show Ev _ _ _ _ _ _ 132 [none, none, none, none, some (.int v4), none, none, none, none, some (.long (absL v9)), none, some (.long (absL v11)), none, none, none] [.long r6] M _
  refine e_lstore [none, none, none, none, some (.int v4), none, none, none, none, some (.long (absL v9)), none, some (.long (absL v11)), none, some (.long r6), none] (dt dk_X9_ever 73 rfl) rfl rfl rfl ?_
  refine e_lload (dt dk_X9_ever 74 rfl) rfl ?_
  refine e_lconst (v := (1 : Int64)) (dt dk_X9_ever 75 rfl) (by decide) ?_
  refine e_lcmp (dt dk_X9_ever 76 rfl) ?_
  refine e_if_ge 144 (dt dk_X9_ever 77 rfl) (by decide) (fun h7 => ?_) (fun h7 => ?_)
  · exact e_forget [false, false, false, false, true, false, false, false, false, true, false, true, false, true, false] [none, none, none, none, some (.int v4), none, none, none, none, some (.long (absL v9)), none, some (.long (absL v11)), none, some (.long r6), none] ⟨rfl, rfl⟩ (ev_lb_X9_ever_144 M v4 (absL v9) (absL v11) r6)
  · refine e_lconst (v := (1 : Int64)) (dt dk_X9_ever 78 rfl) (by decide) ?_
    refine e_lstore [none, none, none, none, some (.int v4), none, none, none, none, some (.long (absL v9)), none, some (.long (absL v11)), none, some (.long (1 : Int64)), none] (dt dk_X9_ever 79 rfl) rfl rfl rfl ?_
    exact e_forget [false, false, false, false, true, false, false, false, false, true, false, true, false, true, false] [none, none, none, none, some (.int v4), none, none, none, none, some (.long (absL v9)), none, some (.long (absL v11)), none, some (.long (1 : Int64)), none] ⟨rfl, rfl⟩ (ev_lb_X9_ever_144 M v4 (absL v9) (absL v11) (1 : Int64))
def f_X9_ever (v1 : Int32) (v2 : Int32) (v3 : Int32) (v4 : Int32) : Option Int64 :=
  (if (f_X9_within v1 (1 : Int32) (16 : Int32)) = 0 then some (-1000000000000000002 : Int64) else (if (f_X9_within v2 (0 : Int32) v1) = 0 then some (-1000000000000000002 : Int64) else (if (f_X9_within v3 (1 : Int32) (9 : Int32)) = 0 then some (-1000000000000000002 : Int64) else (if (f_X9_within v4 (0 : Int32) (1 : Int32)) = 0 then some (-1000000000000000002 : Int64) else (if (lg_cmp (Int32.toInt64 v3) (Int32.toInt64 ((10 : Int32) - v3))) = 0 then (lb_X9_ever_111 v4 (Int32.toInt64 (v1 - v2)) (Int32.toInt64 v1)) else ((f_X9_power (Int32.toInt64 ((10 : Int32) - v3)) v2)).bind fun r9 => ((f_X9_power (Int32.toInt64 v3) (v1 - v2))).bind fun r10 => ((f_X9_power (Int32.toInt64 ((10 : Int32) - v3)) v1)).bind fun r11 => ((f_X9_power (Int32.toInt64 v3) v1)).bind fun r12 => ((f_X9_power (Int32.toInt64 ((10 : Int32) - v3)) v1)).bind fun r13 => (lb_X9_ever_111 v4 ((r9 * r10) - r11) (r12 - r13)))))))
set_option maxRecDepth 20000 in
set_option maxHeartbeats 2000000 in
theorem sp_X9_ever (v1 : Int32) (v2 : Int32) (v3 : Int32) (v4 : Int32) (M : Mem) : SpO (wL M) yX9_ever cX9_ever 15 (some .long) 1 [.ref 0, .int v1, .int v2, .int v3, .int v4] M (f_X9_ever v1 v2 v3 v4) := by
  refine sp_of (L := [some (.ref 0), some (.int v1), some (.int v2), some (.int v3), some (.int v4), none, none, none, none, none, none, none, none, none, none]) rfl (by decide +kernel) rfl rfl ?_
  unfold f_X9_ever
  refine e_iload_n (dt dk_X9_ever 0 rfl) rfl ?_
  refine e_iconst (v := (1 : Int32)) (dt dk_X9_ever 1 rfl) (by decide) ?_
  refine e_bipush (v := (16 : Int32)) (dt dk_X9_ever 2 rfl) (by decide) ?_
  refine ev_callT (ca_S ms_X9_within (sp_X9_within v1 (1 : Int32) (16 : Int32) M) (dt dk_X9_ever 3 rfl) ml_X9_79 rfl rfl rfl (by decide) : Ca _ _ _ _ _ _ _ _ [] _ _) ?_
  show Ev _ _ _ _ _ _ 7 [some (.ref 0), some (.int v1), some (.int v2), some (.int v3), some (.int v4), none, none, none, none, none, none, none, none, none, none] [.int (f_X9_within v1 (1 : Int32) (16 : Int32))] M _
  refine e_if_eq 39 (dt dk_X9_ever 4 rfl) (by decide) (fun h1 => ?_) (fun h1 => ?_)
  · refine e_ldc2 (v := (-1000000000000000002 : Int64)) (dt dk_X9_ever 20 rfl) kl_X9_220 ?_
    exact e_lret (dt dk_X9_ever 21 rfl) rfl rfl
  · refine e_iload_n (dt dk_X9_ever 5 rfl) rfl ?_
    refine e_iconst (v := (0 : Int32)) (dt dk_X9_ever 6 rfl) (by decide) ?_
    refine e_iload_n (dt dk_X9_ever 7 rfl) rfl ?_
    refine ev_callT (ca_S ms_X9_within (sp_X9_within v2 (0 : Int32) v1 M) (dt dk_X9_ever 8 rfl) ml_X9_79 rfl rfl rfl (by decide) : Ca _ _ _ _ _ _ _ _ [] _ _) ?_
    show Ev _ _ _ _ _ _ 16 [some (.ref 0), some (.int v1), some (.int v2), some (.int v3), some (.int v4), none, none, none, none, none, none, none, none, none, none] [.int (f_X9_within v2 (0 : Int32) v1)] M _
    refine e_if_eq 39 (dt dk_X9_ever 9 rfl) (by decide) (fun h2 => ?_) (fun h2 => ?_)
    · refine e_ldc2 (v := (-1000000000000000002 : Int64)) (dt dk_X9_ever 20 rfl) kl_X9_220 ?_
      exact e_lret (dt dk_X9_ever 21 rfl) rfl rfl
    · refine e_iload_n (dt dk_X9_ever 10 rfl) rfl ?_
      refine e_iconst (v := (1 : Int32)) (dt dk_X9_ever 11 rfl) (by decide) ?_
      refine e_bipush (v := (9 : Int32)) (dt dk_X9_ever 12 rfl) (by decide) ?_
      refine ev_callT (ca_S ms_X9_within (sp_X9_within v3 (1 : Int32) (9 : Int32) M) (dt dk_X9_ever 13 rfl) ml_X9_79 rfl rfl rfl (by decide) : Ca _ _ _ _ _ _ _ _ [] _ _) ?_
      show Ev _ _ _ _ _ _ 26 [some (.ref 0), some (.int v1), some (.int v2), some (.int v3), some (.int v4), none, none, none, none, none, none, none, none, none, none] [.int (f_X9_within v3 (1 : Int32) (9 : Int32))] M _
      refine e_if_eq 39 (dt dk_X9_ever 14 rfl) (by decide) (fun h3 => ?_) (fun h3 => ?_)
      · refine e_ldc2 (v := (-1000000000000000002 : Int64)) (dt dk_X9_ever 20 rfl) kl_X9_220 ?_
        exact e_lret (dt dk_X9_ever 21 rfl) rfl rfl
      · refine e_iload (dt dk_X9_ever 15 rfl) rfl ?_
        refine e_iconst (v := (0 : Int32)) (dt dk_X9_ever 16 rfl) (by decide) ?_
        refine e_iconst (v := (1 : Int32)) (dt dk_X9_ever 17 rfl) (by decide) ?_
        refine ev_callT (ca_S ms_X9_within (sp_X9_within v4 (0 : Int32) (1 : Int32) M) (dt dk_X9_ever 18 rfl) ml_X9_79 rfl rfl rfl (by decide) : Ca _ _ _ _ _ _ _ _ [] _ _) ?_
        show Ev _ _ _ _ _ _ 36 [some (.ref 0), some (.int v1), some (.int v2), some (.int v3), some (.int v4), none, none, none, none, none, none, none, none, none, none] [.int (f_X9_within v4 (0 : Int32) (1 : Int32))] M _
        refine e_if_ne 43 (dt dk_X9_ever 19 rfl) (by decide) (fun h4 => ?_) (fun h4 => ?_)
        · refine e_ldc2 (v := (-1000000000000000002 : Int64)) (dt dk_X9_ever 20 rfl) kl_X9_220 ?_
          exact e_lret (dt dk_X9_ever 21 rfl) rfl rfl
        · refine e_iload_n (dt dk_X9_ever 22 rfl) rfl ?_
          refine e_i2l (dt dk_X9_ever 23 rfl) ?_
          refine e_lstore [some (.ref 0), some (.int v1), some (.int v2), some (.int v3), some (.int v4), some (.long (Int32.toInt64 v3)), none, none, none, none, none, none, none, none, none] (dt dk_X9_ever 24 rfl) rfl rfl rfl ?_
          refine e_bipush (v := (10 : Int32)) (dt dk_X9_ever 25 rfl) (by decide) ?_
          refine e_iload_n (dt dk_X9_ever 26 rfl) rfl ?_
          refine e_isub (dt dk_X9_ever 27 rfl) ?_
          refine e_i2l (dt dk_X9_ever 28 rfl) ?_
          refine e_lstore [some (.ref 0), some (.int v1), some (.int v2), some (.int v3), some (.int v4), some (.long (Int32.toInt64 v3)), none, some (.long (Int32.toInt64 ((10 : Int32) - v3))), none, none, none, none, none, none, none] (dt dk_X9_ever 29 rfl) rfl rfl rfl ?_
          refine e_iload_n (dt dk_X9_ever 30 rfl) rfl ?_
          refine e_iload_n (dt dk_X9_ever 31 rfl) rfl ?_
          refine e_isub (dt dk_X9_ever 32 rfl) ?_
          refine e_i2l (dt dk_X9_ever 33 rfl) ?_
          refine e_lstore [some (.ref 0), some (.int v1), some (.int v2), some (.int v3), some (.int v4), some (.long (Int32.toInt64 v3)), none, some (.long (Int32.toInt64 ((10 : Int32) - v3))), none, some (.long (Int32.toInt64 (v1 - v2))), none, none, none, none, none] (dt dk_X9_ever 34 rfl) rfl rfl rfl ?_
          refine e_iload_n (dt dk_X9_ever 35 rfl) rfl ?_
          refine e_i2l (dt dk_X9_ever 36 rfl) ?_
          refine e_lstore [some (.ref 0), some (.int v1), some (.int v2), some (.int v3), some (.int v4), some (.long (Int32.toInt64 v3)), none, some (.long (Int32.toInt64 ((10 : Int32) - v3))), none, some (.long (Int32.toInt64 (v1 - v2))), none, some (.long (Int32.toInt64 v1)), none, none, none] (dt dk_X9_ever 37 rfl) rfl rfl rfl ?_
          refine e_lload (dt dk_X9_ever 38 rfl) rfl ?_
          refine e_lload (dt dk_X9_ever 39 rfl) rfl ?_
          refine e_lcmp (dt dk_X9_ever 40 rfl) ?_
          refine e_if_eq 111 (dt dk_X9_ever 41 rfl) (by decide) (fun h5 => ?_) (fun h5 => ?_)
          · exact e_forget [false, false, false, false, true, false, false, false, false, true, false, true, false, false, false] [none, none, none, none, some (.int v4), none, none, none, none, some (.long (Int32.toInt64 (v1 - v2))), none, some (.long (Int32.toInt64 v1)), none, none, none] ⟨rfl, rfl⟩ (ev_lb_X9_ever_111 M v4 (Int32.toInt64 (v1 - v2)) (Int32.toInt64 v1))
          · refine e_lload (dt dk_X9_ever 42 rfl) rfl ?_
            refine e_iload_n (dt dk_X9_ever 43 rfl) rfl ?_
            refine ev_call (ca_S ms_X9_power (sp_X9_power (Int32.toInt64 ((10 : Int32) - v3)) v2 M) (dt dk_X9_ever 44 rfl) ml_X9_222 rfl rfl rfl (by decide) : Ca _ _ _ _ _ _ _ _ [] _ _) (fun r9 hr9 => ?_)
            show Ev _ _ _ _ _ _ 78 [some (.ref 0), some (.int v1), some (.int v2), some (.int v3), some (.int v4), some (.long (Int32.toInt64 v3)), none, some (.long (Int32.toInt64 ((10 : Int32) - v3))), none, some (.long (Int32.toInt64 (v1 - v2))), none, some (.long (Int32.toInt64 v1)), none, none, none] [.long r9] M _
            refine e_lload (dt dk_X9_ever 45 rfl) rfl ?_
            refine e_iload_n (dt dk_X9_ever 46 rfl) rfl ?_
            refine e_iload_n (dt dk_X9_ever 47 rfl) rfl ?_
            refine e_isub (dt dk_X9_ever 48 rfl) ?_
            refine ev_call (ca_S ms_X9_power (sp_X9_power (Int32.toInt64 v3) (v1 - v2) M) (dt dk_X9_ever 49 rfl) ml_X9_222 rfl rfl rfl (by decide) : Ca _ _ _ _ _ _ _ _ [.long r9] _ _) (fun r10 hr10 => ?_)
            show Ev _ _ _ _ _ _ 86 [some (.ref 0), some (.int v1), some (.int v2), some (.int v3), some (.int v4), some (.long (Int32.toInt64 v3)), none, some (.long (Int32.toInt64 ((10 : Int32) - v3))), none, some (.long (Int32.toInt64 (v1 - v2))), none, some (.long (Int32.toInt64 v1)), none, none, none] [.long r10, .long r9] M _
            refine e_lmul (dt dk_X9_ever 50 rfl) ?_
            refine e_lload (dt dk_X9_ever 51 rfl) rfl ?_
            refine e_iload_n (dt dk_X9_ever 52 rfl) rfl ?_
            refine ev_call (ca_S ms_X9_power (sp_X9_power (Int32.toInt64 ((10 : Int32) - v3)) v1 M) (dt dk_X9_ever 53 rfl) ml_X9_222 rfl rfl rfl (by decide) : Ca _ _ _ _ _ _ _ _ [.long (r9 * r10)] _ _) (fun r11 hr11 => ?_)
            show Ev _ _ _ _ _ _ 93 [some (.ref 0), some (.int v1), some (.int v2), some (.int v3), some (.int v4), some (.long (Int32.toInt64 v3)), none, some (.long (Int32.toInt64 ((10 : Int32) - v3))), none, some (.long (Int32.toInt64 (v1 - v2))), none, some (.long (Int32.toInt64 v1)), none, none, none] [.long r11, .long (r9 * r10)] M _
            refine e_lsub (dt dk_X9_ever 54 rfl) ?_
            refine e_lstore [some (.ref 0), some (.int v1), some (.int v2), some (.int v3), some (.int v4), some (.long (Int32.toInt64 v3)), none, some (.long (Int32.toInt64 ((10 : Int32) - v3))), none, some (.long ((r9 * r10) - r11)), none, some (.long (Int32.toInt64 v1)), none, none, none] (dt dk_X9_ever 55 rfl) rfl rfl rfl ?_
            refine e_lload (dt dk_X9_ever 56 rfl) rfl ?_
            refine e_iload_n (dt dk_X9_ever 57 rfl) rfl ?_
            refine ev_call (ca_S ms_X9_power (sp_X9_power (Int32.toInt64 v3) v1 M) (dt dk_X9_ever 58 rfl) ml_X9_222 rfl rfl rfl (by decide) : Ca _ _ _ _ _ _ _ _ [] _ _) (fun r12 hr12 => ?_)
            show Ev _ _ _ _ _ _ 102 [some (.ref 0), some (.int v1), some (.int v2), some (.int v3), some (.int v4), some (.long (Int32.toInt64 v3)), none, some (.long (Int32.toInt64 ((10 : Int32) - v3))), none, some (.long ((r9 * r10) - r11)), none, some (.long (Int32.toInt64 v1)), none, none, none] [.long r12] M _
            refine e_lload (dt dk_X9_ever 59 rfl) rfl ?_
            refine e_iload_n (dt dk_X9_ever 60 rfl) rfl ?_
            refine ev_call (ca_S ms_X9_power (sp_X9_power (Int32.toInt64 ((10 : Int32) - v3)) v1 M) (dt dk_X9_ever 61 rfl) ml_X9_222 rfl rfl rfl (by decide) : Ca _ _ _ _ _ _ _ _ [.long r12] _ _) (fun r13 hr13 => ?_)
            show Ev _ _ _ _ _ _ 108 [some (.ref 0), some (.int v1), some (.int v2), some (.int v3), some (.int v4), some (.long (Int32.toInt64 v3)), none, some (.long (Int32.toInt64 ((10 : Int32) - v3))), none, some (.long ((r9 * r10) - r11)), none, some (.long (Int32.toInt64 v1)), none, none, none] [.long r13, .long r12] M _
            refine e_lsub (dt dk_X9_ever 62 rfl) ?_
            refine e_lstore [some (.ref 0), some (.int v1), some (.int v2), some (.int v3), some (.int v4), some (.long (Int32.toInt64 v3)), none, some (.long (Int32.toInt64 ((10 : Int32) - v3))), none, some (.long ((r9 * r10) - r11)), none, some (.long (r12 - r13)), none, none, none] (dt dk_X9_ever 63 rfl) rfl rfl rfl ?_
            exact e_forget [false, false, false, false, true, false, false, false, false, true, false, true, false, false, false] [none, none, none, none, some (.int v4), none, none, none, none, some (.long ((r9 * r10) - r11)), none, some (.long (r12 - r13)), none, none, none] ⟨rfl, rfl⟩ (ev_lb_X9_ever_111 M v4 ((r9 * r10) - r11) (r12 - r13))
-- X9_year (W, depth 4)
def bd_X9_year_50  (K50 : Int32 → Int32 → Int32 → Int32 → Mem → Option (Int32 × Mem)) (v2 : Int32) (v3 : Int32) (v4 : Int32) (v5 : Int32) (M : Mem) : Option (Int32 × Mem) :=
  (if v2 ≤ v5 then (if v3 = (0 : Int32) then ((f_X8_allDoubts_8 M)).bind fun r7 => some (r7, M) else if v3 = (1 : Int32) then some ((M 8 7), M) else ((f_X8_clearHouses_8 M)).bind fun r9 => some ((f_J6_bitCount_0f7a4 r9), M)) else ((f_X0_draw_17 (remI (((75 : Int32) * v4) + (74 : Int32)) (65537 : Int32)) M)).bind fun q10 => (if (q10 17 0) = 0 then (K50 v2 v3 (remI (((75 : Int32) * v4) + (74 : Int32)) (65537 : Int32)) (v5 + (1 : Int32)) q10) else ((f_X8_whyNot_8_17 q10)).bind fun r12 => (if r12 = 0 then ((f_X8_take_8_17 q10)).bind fun q14 => (K50 v2 v3 (remI (((75 : Int32) * v4) + (74 : Int32)) (65537 : Int32)) (v5 + (1 : Int32)) q14) else (K50 v2 v3 (remI (((75 : Int32) * v4) + (74 : Int32)) (65537 : Int32)) (v5 + (1 : Int32)) q10))))
set_option maxRecDepth 20000 in
set_option maxHeartbeats 2000000 in
theorem ev_bd_X9_year_50  (K50 : Int32 → Int32 → Int32 → Int32 → Mem → Option (Int32 × Mem))  (hK50 : ∀ (v2 : Int32) (v3 : Int32) (v4 : Int32) (v5 : Int32) (M : Mem), Ev none wI RX9 cX9_year (some .int) 4 50 [some (.ref 0), none, some (.int v2), some (.int v3), some (.int v4), some (.int v5)] [] M (K50 v2 v3 v4 v5 M)) (v2 : Int32) (v3 : Int32) (v4 : Int32) (v5 : Int32) (M : Mem) : Ev none wI RX9 cX9_year (some .int) 4 50 [some (.ref 0), none, some (.int v2), some (.int v3), some (.int v4), some (.int v5)] [] M (bd_X9_year_50 K50 v2 v3 v4 v5 M) := by
  unfold bd_X9_year_50
  refine e_iload (dt dk_X9_year 26 rfl) rfl ?_
  refine e_iload_n (dt dk_X9_year 27 rfl) rfl ?_
  refine e_icmp_ge 119 (dt dk_X9_year 28 rfl) (by decide) (fun h5 => ?_) (fun h5 => ?_)
  · refine e_iload_n (dt dk_X9_year 58 rfl) rfl ?_
    refine e_split (fun h6 => ?_) (fun h6 => ?_)
    · refine e_lookup (off := 28) 148 (dt dk_X9_year 59 rfl) rfl (by rw [h6]; rfl) (by decide) ?_
      refine e_aload_n (dt dk_X9_year 60 rfl) rfl ?_
      refine e_getR ci_X9 (dt dk_X9_year 61 rfl) rfl (by decide) rfl fl_X9_16 ?_
      refine ev_call (ca_V (k := 8) mv_X8_allDoubts (sp_X8_allDoubts_8 M) (dt dk_X9_year 62 rfl) ml_X9_137 rfl rfl rfl rfl rfl (by decide) : Ca _ _ _ _ _ _ _ _ [] _ _) (fun r7 hr7 => ?_)
      show Ev _ _ _ _ _ _ 155 [some (.ref 0), none, some (.int v2), some (.int v3), some (.int v4), some (.int v5)] [.int r7] M _
      exact e_iret (dt dk_X9_year 63 rfl) rfl rfl rfl
    · skip
      refine e_split (fun h8 => ?_) (fun h8 => ?_)
      · refine e_lookup (off := 36) 156 (dt dk_X9_year 59 rfl) rfl (by rw [h8]; rfl) (by decide) ?_
        refine e_aload_n (dt dk_X9_year 64 rfl) rfl ?_
        refine e_getR ci_X9 (dt dk_X9_year 65 rfl) rfl (by decide) rfl fl_X9_16 ?_
        refine e_getI (v := (M 8 7)) ci_X8 (dt dk_X9_year 66 rfl) rfl (by decide) rfl fl_X9_130 rfl ?_
        exact e_iret (dt dk_X9_year 67 rfl) rfl rfl rfl
      · skip
        refine e_lookup (off := 44) 164 (dt dk_X9_year 59 rfl) rfl ((lv_osw h6 rfl).trans <| (lv_osw h8 rfl).trans <| rfl) (by decide) ?_
        refine e_aload_n (dt dk_X9_year 68 rfl) rfl ?_
        refine e_getR ci_X9 (dt dk_X9_year 69 rfl) rfl (by decide) rfl fl_X9_16 ?_
        refine ev_call (ca_V (k := 8) mv_X8_clearHouses (sp_X8_clearHouses_8 M) (dt dk_X9_year 70 rfl) ml_X9_143 rfl rfl rfl rfl rfl (by decide) : Ca _ _ _ _ _ _ _ _ [] _ _) (fun r9 hr9 => ?_)
        show Ev _ _ _ _ _ _ 171 [some (.ref 0), none, some (.int v2), some (.int v3), some (.int v4), some (.int v5)] [.int r9] M _
        refine ev_callT (ca_S ms_J6_bitCount_0f7a4 (sp_J6_bitCount_0f7a4 r9 M) (dt dk_X9_year 71 rfl) ml_X9_169 rfl rfl rfl (by decide) : Ca _ _ _ _ _ _ _ _ [] _ _) ?_
        show Ev _ _ _ _ _ _ 174 [some (.ref 0), none, some (.int v2), some (.int v3), some (.int v4), some (.int v5)] [.int (f_J6_bitCount_0f7a4 r9)] M _
        exact e_iret (dt dk_X9_year 72 rfl) rfl rfl rfl
  · refine e_bipush (v := (75 : Int32)) (dt dk_X9_year 29 rfl) (by decide) ?_
    refine e_iload (dt dk_X9_year 30 rfl) rfl ?_
    refine e_imul (dt dk_X9_year 31 rfl) ?_
    refine e_bipush (v := (74 : Int32)) (dt dk_X9_year 32 rfl) (by decide) ?_
    refine e_iadd (dt dk_X9_year 33 rfl) ?_
    refine e_ldc (v := (65537 : Int32)) (dt dk_X9_year 34 rfl) kc_X9_236 ?_
    refine e_irem' (dt dk_X9_year 35 rfl) (by decide) ?_
    show Ev _ _ _ _ _ _ 67 [some (.ref 0), none, some (.int v2), some (.int v3), some (.int v4), some (.int v5)] [.int (remI (((75 : Int32) * v4) + (74 : Int32)) (65537 : Int32))] M _
    refine e_istore [some (.ref 0), none, some (.int v2), some (.int v3), some (.int (remI (((75 : Int32) * v4) + (74 : Int32)) (65537 : Int32))), some (.int v5)] (dt dk_X9_year 36 rfl) rfl rfl rfl ?_
    refine e_aload_n (dt dk_X9_year 37 rfl) rfl ?_
    refine e_getR ci_X9 (dt dk_X9_year 38 rfl) rfl (by decide) rfl fl_X9_29 ?_
    refine e_iload (dt dk_X9_year 39 rfl) rfl ?_
    refine ev_call (ca_V (k := 17) mv_X0_draw (sp_X0_draw_17 (remI (((75 : Int32) * v4) + (74 : Int32)) (65537 : Int32)) M) (dt dk_X9_year 40 rfl) ml_X9_237 rfl rfl rfl rfl rfl (by decide) : Ca _ _ _ _ _ _ _ _ [] _ _) (fun q10 hq10 => ?_)
    show Ev _ _ _ _ _ _ 78 [some (.ref 0), none, some (.int v2), some (.int v3), some (.int (remI (((75 : Int32) * v4) + (74 : Int32)) (65537 : Int32))), some (.int v5)] [] q10 _
    refine e_aload_n (dt dk_X9_year 41 rfl) rfl ?_
    refine e_getR ci_X9 (dt dk_X9_year 42 rfl) rfl (by decide) rfl fl_X9_29 ?_
    refine e_getI (v := (q10 17 0)) ci_X0 (dt dk_X9_year 43 rfl) rfl (by decide) rfl fl_X9_241 rfl ?_
    refine e_if_eq 113 (dt dk_X9_year 44 rfl) (by decide) (fun h11 => ?_) (fun h11 => ?_)
    · refine e_iinc [some (.ref 0), none, some (.int v2), some (.int v3), some (.int (remI (((75 : Int32) * v4) + (74 : Int32)) (65537 : Int32))), some (.int (v5 + (1 : Int32)))] (dt dk_X9_year 56 rfl) rfl rfl rfl rfl ?_
      refine e_goto 50 (dt dk_X9_year 57 rfl) (by decide) ?_
      exact e_forget [true, false, true, true, true, true] [some (.ref 0), none, some (.int v2), some (.int v3), some (.int (remI (((75 : Int32) * v4) + (74 : Int32)) (65537 : Int32))), some (.int (v5 + (1 : Int32)))] ⟨rfl, rfl⟩ (hK50 v2 v3 (remI (((75 : Int32) * v4) + (74 : Int32)) (65537 : Int32)) (v5 + (1 : Int32)) q10)
    · refine e_aload_n (dt dk_X9_year 45 rfl) rfl ?_
      refine e_getR ci_X9 (dt dk_X9_year 46 rfl) rfl (by decide) rfl fl_X9_16 ?_
      refine e_aload_n (dt dk_X9_year 47 rfl) rfl ?_
      refine e_getR ci_X9 (dt dk_X9_year 48 rfl) rfl (by decide) rfl fl_X9_29 ?_
      refine ev_call (ca_V (k := 8) mv_X8_whyNot (sp_X8_whyNot_8_17 q10) (dt dk_X9_year 49 rfl) ml_X9_244 rfl rfl rfl rfl rfl (by decide) : Ca _ _ _ _ _ _ _ _ [] _ _) (fun r12 hr12 => ?_)
      show Ev _ _ _ _ _ _ 99 [some (.ref 0), none, some (.int v2), some (.int v3), some (.int (remI (((75 : Int32) * v4) + (74 : Int32)) (65537 : Int32))), some (.int v5)] [.int r12] q10 _
      refine e_if_ne 113 (dt dk_X9_year 50 rfl) (by decide) (fun h13 => ?_) (fun h13 => ?_)
      · refine e_aload_n (dt dk_X9_year 51 rfl) rfl ?_
        refine e_getR ci_X9 (dt dk_X9_year 52 rfl) rfl (by decide) rfl fl_X9_16 ?_
        refine e_aload_n (dt dk_X9_year 53 rfl) rfl ?_
        refine e_getR ci_X9 (dt dk_X9_year 54 rfl) rfl (by decide) rfl fl_X9_29 ?_
        refine ev_call (ca_V (k := 8) mv_X8_take (sp_X8_take_8_17 q10) (dt dk_X9_year 55 rfl) ml_X9_248 rfl rfl rfl rfl rfl (by decide) : Ca _ _ _ _ _ _ _ _ [] _ _) (fun q14 hq14 => ?_)
        show Ev _ _ _ _ _ _ 113 [some (.ref 0), none, some (.int v2), some (.int v3), some (.int (remI (((75 : Int32) * v4) + (74 : Int32)) (65537 : Int32))), some (.int v5)] [] q14 _
        refine e_iinc [some (.ref 0), none, some (.int v2), some (.int v3), some (.int (remI (((75 : Int32) * v4) + (74 : Int32)) (65537 : Int32))), some (.int (v5 + (1 : Int32)))] (dt dk_X9_year 56 rfl) rfl rfl rfl rfl ?_
        refine e_goto 50 (dt dk_X9_year 57 rfl) (by decide) ?_
        exact e_forget [true, false, true, true, true, true] [some (.ref 0), none, some (.int v2), some (.int v3), some (.int (remI (((75 : Int32) * v4) + (74 : Int32)) (65537 : Int32))), some (.int (v5 + (1 : Int32)))] ⟨rfl, rfl⟩ (hK50 v2 v3 (remI (((75 : Int32) * v4) + (74 : Int32)) (65537 : Int32)) (v5 + (1 : Int32)) q14)
      · refine e_iinc [some (.ref 0), none, some (.int v2), some (.int v3), some (.int (remI (((75 : Int32) * v4) + (74 : Int32)) (65537 : Int32))), some (.int (v5 + (1 : Int32)))] (dt dk_X9_year 56 rfl) rfl rfl rfl rfl ?_
        refine e_goto 50 (dt dk_X9_year 57 rfl) (by decide) ?_
        exact e_forget [true, false, true, true, true, true] [some (.ref 0), none, some (.int v2), some (.int v3), some (.int (remI (((75 : Int32) * v4) + (74 : Int32)) (65537 : Int32))), some (.int (v5 + (1 : Int32)))] ⟨rfl, rfl⟩ (hK50 v2 v3 (remI (((75 : Int32) * v4) + (74 : Int32)) (65537 : Int32)) (v5 + (1 : Int32)) q10)
def lp_X9_year_50  : Nat → Int32 → Int32 → Int32 → Int32 → Mem → Option (Int32 × Mem)
  | 0 => fun _ _ _ _ _ => none
  | n + 1 => bd_X9_year_50 (lp_X9_year_50 n)
theorem ev_lp_X9_year_50   : ∀ (n : Nat), ∀ (v2 : Int32) (v3 : Int32) (v4 : Int32) (v5 : Int32) (M : Mem), Ev none wI RX9 cX9_year (some .int) 4 50 [some (.ref 0), none, some (.int v2), some (.int v3), some (.int v4), some (.int v5)] [] M (lp_X9_year_50 n v2 v3 v4 v5 M)
  | 0 => fun _ _ _ _ _ => e_none
  | n + 1 => ev_bd_X9_year_50 (lp_X9_year_50 n) (ev_lp_X9_year_50 n)
def f_X9_year (v1 : Int32) (v2 : Int32) (v3 : Int32) (M : Mem) : Option (Int32 × Mem) :=
  (if (f_X9_within v1 (0 : Int32) (9999 : Int32)) = 0 then some ((-2 : Int32), M) else (if (f_X9_within v2 (1 : Int32) (99 : Int32)) = 0 then some ((-2 : Int32), M) else (if (f_X9_within v3 (0 : Int32) (2 : Int32)) = 0 then some ((-2 : Int32), M) else ((f_X8_become_8_1 M)).bind fun q4 => (lp_X9_year_50 FU v2 v3 v1 (0 : Int32) q4))))
set_option maxRecDepth 20000 in
set_option maxHeartbeats 2000000 in
theorem sp_X9_year (v1 : Int32) (v2 : Int32) (v3 : Int32) (M : Mem) : SpO wI yX9_year cX9_year 6 (some .int) 4 [.ref 0, .int v1, .int v2, .int v3] M (f_X9_year v1 v2 v3 M) := by
  refine sp_of (L := [some (.ref 0), some (.int v1), some (.int v2), some (.int v3), none, none]) rfl (by decide +kernel) rfl rfl ?_
  unfold f_X9_year
  refine e_iload_n (dt dk_X9_year 0 rfl) rfl ?_
  refine e_iconst (v := (0 : Int32)) (dt dk_X9_year 1 rfl) (by decide) ?_
  refine e_sipush (v := (9999 : Int32)) (dt dk_X9_year 2 rfl) (by decide) ?_
  refine ev_callT (ca_S ms_X9_within (sp_X9_within v1 (0 : Int32) (9999 : Int32) M) (dt dk_X9_year 3 rfl) ml_X9_79 rfl rfl rfl (by decide) : Ca _ _ _ _ _ _ _ _ [] _ _) ?_
  show Ev _ _ _ _ _ _ 8 [some (.ref 0), some (.int v1), some (.int v2), some (.int v3), none, none] [.int (f_X9_within v1 (0 : Int32) (9999 : Int32))] M _
  refine e_if_eq 30 (dt dk_X9_year 4 rfl) (by decide) (fun h1 => ?_) (fun h1 => ?_)
  · refine e_bipush (v := (-2 : Int32)) (dt dk_X9_year 15 rfl) (by decide) ?_
    exact e_iret (dt dk_X9_year 16 rfl) rfl rfl rfl
  · refine e_iload_n (dt dk_X9_year 5 rfl) rfl ?_
    refine e_iconst (v := (1 : Int32)) (dt dk_X9_year 6 rfl) (by decide) ?_
    refine e_bipush (v := (99 : Int32)) (dt dk_X9_year 7 rfl) (by decide) ?_
    refine ev_callT (ca_S ms_X9_within (sp_X9_within v2 (1 : Int32) (99 : Int32) M) (dt dk_X9_year 8 rfl) ml_X9_79 rfl rfl rfl (by decide) : Ca _ _ _ _ _ _ _ _ [] _ _) ?_
    show Ev _ _ _ _ _ _ 18 [some (.ref 0), some (.int v1), some (.int v2), some (.int v3), none, none] [.int (f_X9_within v2 (1 : Int32) (99 : Int32))] M _
    refine e_if_eq 30 (dt dk_X9_year 9 rfl) (by decide) (fun h2 => ?_) (fun h2 => ?_)
    · refine e_bipush (v := (-2 : Int32)) (dt dk_X9_year 15 rfl) (by decide) ?_
      exact e_iret (dt dk_X9_year 16 rfl) rfl rfl rfl
    · refine e_iload_n (dt dk_X9_year 10 rfl) rfl ?_
      refine e_iconst (v := (0 : Int32)) (dt dk_X9_year 11 rfl) (by decide) ?_
      refine e_iconst (v := (2 : Int32)) (dt dk_X9_year 12 rfl) (by decide) ?_
      refine ev_callT (ca_S ms_X9_within (sp_X9_within v3 (0 : Int32) (2 : Int32) M) (dt dk_X9_year 13 rfl) ml_X9_79 rfl rfl rfl (by decide) : Ca _ _ _ _ _ _ _ _ [] _ _) ?_
      show Ev _ _ _ _ _ _ 27 [some (.ref 0), some (.int v1), some (.int v2), some (.int v3), none, none] [.int (f_X9_within v3 (0 : Int32) (2 : Int32))] M _
      refine e_if_ne 33 (dt dk_X9_year 14 rfl) (by decide) (fun h3 => ?_) (fun h3 => ?_)
      · refine e_bipush (v := (-2 : Int32)) (dt dk_X9_year 15 rfl) (by decide) ?_
        exact e_iret (dt dk_X9_year 16 rfl) rfl rfl rfl
      · refine e_aload_n (dt dk_X9_year 17 rfl) rfl ?_
        refine e_getR ci_X9 (dt dk_X9_year 18 rfl) rfl (by decide) rfl fl_X9_16 ?_
        refine e_aload_n (dt dk_X9_year 19 rfl) rfl ?_
        refine e_getR ci_X9 (dt dk_X9_year 20 rfl) rfl (by decide) rfl fl_X9_10 ?_
        refine ev_call (ca_V (k := 8) mv_X8_become (sp_X8_become_8_1 M) (dt dk_X9_year 21 rfl) ml_X9_152 rfl rfl rfl rfl rfl (by decide) : Ca _ _ _ _ _ _ _ _ [] _ _) (fun q4 hq4 => ?_)
        show Ev _ _ _ _ _ _ 44 [some (.ref 0), some (.int v1), some (.int v2), some (.int v3), none, none] [] q4 _
        refine e_iload_n (dt dk_X9_year 22 rfl) rfl ?_
        refine e_istore [some (.ref 0), some (.int v1), some (.int v2), some (.int v3), some (.int v1), none] (dt dk_X9_year 23 rfl) rfl rfl rfl ?_
        refine e_iconst (v := (0 : Int32)) (dt dk_X9_year 24 rfl) (by decide) ?_
        refine e_istore [some (.ref 0), some (.int v1), some (.int v2), some (.int v3), some (.int v1), some (.int (0 : Int32))] (dt dk_X9_year 25 rfl) rfl rfl rfl ?_
        exact e_forget [true, false, true, true, true, true] [some (.ref 0), none, some (.int v2), some (.int v3), some (.int v1), some (.int (0 : Int32))] ⟨rfl, rfl⟩ (ev_lp_X9_year_50 FU v2 v3 v1 (0 : Int32) q4)
-- X9_image (W, depth 2)
def f_X9_image (v1 : Int32) (M : Mem) : Option (Int32 × Mem) :=
  (if (f_X9_within v1 (0 : Int32) (1 : Int32)) = 0 then some ((-2 : Int32), M) else (if v1 = 0 then ((f_X8_become_34_1 M)).bind fun q4 => (if v1 = 0 then ((f_X6_become_41_19 q4)).bind fun q7 => (if v1 = 0 then some ((1 : Int32), (up2 q7 33 2 (1 : Int32))) else if v1 = 1 then some ((1 : Int32), (up2 q7 43 2 (1 : Int32))) else none) else if v1 = 1 then ((f_X6_become_51_19 q4)).bind fun q10 => (if v1 = 0 then some ((1 : Int32), (up2 q10 33 2 (1 : Int32))) else if v1 = 1 then some ((1 : Int32), (up2 q10 43 2 (1 : Int32))) else none) else none) else if v1 = 1 then ((f_X8_become_44_1 M)).bind fun q13 => (if v1 = 0 then ((f_X6_become_41_19 q13)).bind fun q16 => (if v1 = 0 then some ((1 : Int32), (up2 q16 33 2 (1 : Int32))) else if v1 = 1 then some ((1 : Int32), (up2 q16 43 2 (1 : Int32))) else none) else if v1 = 1 then ((f_X6_become_51_19 q13)).bind fun q19 => (if v1 = 0 then some ((1 : Int32), (up2 q19 33 2 (1 : Int32))) else if v1 = 1 then some ((1 : Int32), (up2 q19 43 2 (1 : Int32))) else none) else none) else none))
set_option maxRecDepth 20000 in
set_option maxHeartbeats 2000000 in
theorem sp_X9_image (v1 : Int32) (M : Mem) : SpO wI yX9_image cX9_image 2 (some .int) 2 [.ref 0, .int v1] M (f_X9_image v1 M) := by
  refine sp_of (L := [some (.ref 0), some (.int v1)]) rfl (by decide +kernel) rfl rfl ?_
  unfold f_X9_image
  refine e_iload_n (dt dk_X9_image 0 rfl) rfl ?_
  refine e_iconst (v := (0 : Int32)) (dt dk_X9_image 1 rfl) (by decide) ?_
  refine e_iconst (v := (1 : Int32)) (dt dk_X9_image 2 rfl) (by decide) ?_
  refine ev_callT (ca_S ms_X9_within (sp_X9_within v1 (0 : Int32) (1 : Int32) M) (dt dk_X9_image 3 rfl) ml_X9_79 rfl rfl rfl (by decide) : Ca _ _ _ _ _ _ _ _ [] _ _) ?_
  show Ev _ _ _ _ _ _ 6 [some (.ref 0), some (.int v1)] [.int (f_X9_within v1 (0 : Int32) (1 : Int32))] M _
  refine e_if_ne 12 (dt dk_X9_image 4 rfl) (by decide) (fun h1 => ?_) (fun h1 => ?_)
  · refine e_bipush (v := (-2 : Int32)) (dt dk_X9_image 5 rfl) (by decide) ?_
    exact e_iret (dt dk_X9_image 6 rfl) rfl rfl rfl
  · refine e_aload_n (dt dk_X9_image 7 rfl) rfl ?_
    refine e_getR ci_X9 (dt dk_X9_image 8 rfl) rfl (by decide) rfl fl_X9_70 ?_
    refine e_iload_n (dt dk_X9_image 9 rfl) rfl ?_
    refine e_split (fun h2 => ?_) (fun h2 => ?_)
    · refine e_aald (dt dk_X9_image 10 rfl) rfl (by rw [h2]; decide) (by rw [h2]; rfl) ?_
      refine e_getR ci_X4 (dt dk_X9_image 11 rfl) rfl (by decide) rfl fl_X9_252 ?_
      refine e_aload_n (dt dk_X9_image 12 rfl) rfl ?_
      refine e_getR ci_X9 (dt dk_X9_image 13 rfl) rfl (by decide) rfl fl_X9_10 ?_
      refine ev_call (ca_V (k := 34) mv_X8_become (sp_X8_become_34_1 M) (dt dk_X9_image 14 rfl) ml_X9_152 rfl rfl rfl rfl rfl (by decide) : Ca _ _ _ _ _ _ _ _ [] _ _) (fun q4 hq4 => ?_)
      show Ev _ _ _ _ _ _ 28 [some (.ref 0), some (.int v1)] [] q4 _
      refine e_aload_n (dt dk_X9_image 15 rfl) rfl ?_
      refine e_getR ci_X9 (dt dk_X9_image 16 rfl) rfl (by decide) rfl fl_X9_70 ?_
      refine e_iload_n (dt dk_X9_image 17 rfl) rfl ?_
      refine e_split (fun h5 => ?_) (fun h5 => ?_)
      · refine e_aald (dt dk_X9_image 18 rfl) rfl (by rw [h5]; decide) (by rw [h5]; rfl) ?_
        refine e_getR ci_X4 (dt dk_X9_image 19 rfl) rfl (by decide) rfl fl_X9_255 ?_
        refine e_aload_n (dt dk_X9_image 20 rfl) rfl ?_
        refine e_getR ci_X9 (dt dk_X9_image 21 rfl) rfl (by decide) rfl fl_X9_43 ?_
        refine ev_call (ca_V (k := 41) mv_X6_become (sp_X6_become_41_19 q4) (dt dk_X9_image 22 rfl) ml_X9_256 rfl rfl rfl rfl rfl (by decide) : Ca _ _ _ _ _ _ _ _ [] _ _) (fun q7 hq7 => ?_)
        show Ev _ _ _ _ _ _ 44 [some (.ref 0), some (.int v1)] [] q7 _
        refine e_aload_n (dt dk_X9_image 23 rfl) rfl ?_
        refine e_getR ci_X9 (dt dk_X9_image 24 rfl) rfl (by decide) rfl fl_X9_70 ?_
        refine e_iload_n (dt dk_X9_image 25 rfl) rfl ?_
        refine e_split (fun h8 => ?_) (fun h8 => ?_)
        · refine e_aald (dt dk_X9_image 26 rfl) rfl (by rw [h8]; decide) (by rw [h8]; rfl) ?_
          refine e_iconst (v := (1 : Int32)) (dt dk_X9_image 27 rfl) (by decide) ?_
          refine e_putI (ty := .boolean) ci_X4 (dt dk_X9_image 28 rfl) rfl (by decide) rfl fl_X9_258 rfl (by decide +kernel) rfl rfl ?_
          refine e_iconst (v := (1 : Int32)) (dt dk_X9_image 29 rfl) (by decide) ?_
          exact e_iret (dt dk_X9_image 30 rfl) rfl rfl rfl
        · refine e_split (fun h9 => ?_) (fun _ => e_none)
          refine e_aald (dt dk_X9_image 26 rfl) rfl (by rw [h9]; decide) (by rw [h9]; rfl) ?_
          refine e_iconst (v := (1 : Int32)) (dt dk_X9_image 27 rfl) (by decide) ?_
          refine e_putI (ty := .boolean) ci_X4 (dt dk_X9_image 28 rfl) rfl (by decide) rfl fl_X9_258 rfl (by decide +kernel) rfl rfl ?_
          refine e_iconst (v := (1 : Int32)) (dt dk_X9_image 29 rfl) (by decide) ?_
          exact e_iret (dt dk_X9_image 30 rfl) rfl rfl rfl
      · refine e_split (fun h6 => ?_) (fun _ => e_none)
        refine e_aald (dt dk_X9_image 18 rfl) rfl (by rw [h6]; decide) (by rw [h6]; rfl) ?_
        refine e_getR ci_X4 (dt dk_X9_image 19 rfl) rfl (by decide) rfl fl_X9_255 ?_
        refine e_aload_n (dt dk_X9_image 20 rfl) rfl ?_
        refine e_getR ci_X9 (dt dk_X9_image 21 rfl) rfl (by decide) rfl fl_X9_43 ?_
        refine ev_call (ca_V (k := 51) mv_X6_become (sp_X6_become_51_19 q4) (dt dk_X9_image 22 rfl) ml_X9_256 rfl rfl rfl rfl rfl (by decide) : Ca _ _ _ _ _ _ _ _ [] _ _) (fun q10 hq10 => ?_)
        show Ev _ _ _ _ _ _ 44 [some (.ref 0), some (.int v1)] [] q10 _
        refine e_aload_n (dt dk_X9_image 23 rfl) rfl ?_
        refine e_getR ci_X9 (dt dk_X9_image 24 rfl) rfl (by decide) rfl fl_X9_70 ?_
        refine e_iload_n (dt dk_X9_image 25 rfl) rfl ?_
        refine e_split (fun h11 => ?_) (fun h11 => ?_)
        · refine e_aald (dt dk_X9_image 26 rfl) rfl (by rw [h11]; decide) (by rw [h11]; rfl) ?_
          refine e_iconst (v := (1 : Int32)) (dt dk_X9_image 27 rfl) (by decide) ?_
          refine e_putI (ty := .boolean) ci_X4 (dt dk_X9_image 28 rfl) rfl (by decide) rfl fl_X9_258 rfl (by decide +kernel) rfl rfl ?_
          refine e_iconst (v := (1 : Int32)) (dt dk_X9_image 29 rfl) (by decide) ?_
          exact e_iret (dt dk_X9_image 30 rfl) rfl rfl rfl
        · refine e_split (fun h12 => ?_) (fun _ => e_none)
          refine e_aald (dt dk_X9_image 26 rfl) rfl (by rw [h12]; decide) (by rw [h12]; rfl) ?_
          refine e_iconst (v := (1 : Int32)) (dt dk_X9_image 27 rfl) (by decide) ?_
          refine e_putI (ty := .boolean) ci_X4 (dt dk_X9_image 28 rfl) rfl (by decide) rfl fl_X9_258 rfl (by decide +kernel) rfl rfl ?_
          refine e_iconst (v := (1 : Int32)) (dt dk_X9_image 29 rfl) (by decide) ?_
          exact e_iret (dt dk_X9_image 30 rfl) rfl rfl rfl
    · refine e_split (fun h3 => ?_) (fun _ => e_none)
      refine e_aald (dt dk_X9_image 10 rfl) rfl (by rw [h3]; decide) (by rw [h3]; rfl) ?_
      refine e_getR ci_X4 (dt dk_X9_image 11 rfl) rfl (by decide) rfl fl_X9_252 ?_
      refine e_aload_n (dt dk_X9_image 12 rfl) rfl ?_
      refine e_getR ci_X9 (dt dk_X9_image 13 rfl) rfl (by decide) rfl fl_X9_10 ?_
      refine ev_call (ca_V (k := 44) mv_X8_become (sp_X8_become_44_1 M) (dt dk_X9_image 14 rfl) ml_X9_152 rfl rfl rfl rfl rfl (by decide) : Ca _ _ _ _ _ _ _ _ [] _ _) (fun q13 hq13 => ?_)
      show Ev _ _ _ _ _ _ 28 [some (.ref 0), some (.int v1)] [] q13 _
      refine e_aload_n (dt dk_X9_image 15 rfl) rfl ?_
      refine e_getR ci_X9 (dt dk_X9_image 16 rfl) rfl (by decide) rfl fl_X9_70 ?_
      refine e_iload_n (dt dk_X9_image 17 rfl) rfl ?_
      refine e_split (fun h14 => ?_) (fun h14 => ?_)
      · refine e_aald (dt dk_X9_image 18 rfl) rfl (by rw [h14]; decide) (by rw [h14]; rfl) ?_
        refine e_getR ci_X4 (dt dk_X9_image 19 rfl) rfl (by decide) rfl fl_X9_255 ?_
        refine e_aload_n (dt dk_X9_image 20 rfl) rfl ?_
        refine e_getR ci_X9 (dt dk_X9_image 21 rfl) rfl (by decide) rfl fl_X9_43 ?_
        refine ev_call (ca_V (k := 41) mv_X6_become (sp_X6_become_41_19 q13) (dt dk_X9_image 22 rfl) ml_X9_256 rfl rfl rfl rfl rfl (by decide) : Ca _ _ _ _ _ _ _ _ [] _ _) (fun q16 hq16 => ?_)
        show Ev _ _ _ _ _ _ 44 [some (.ref 0), some (.int v1)] [] q16 _
        refine e_aload_n (dt dk_X9_image 23 rfl) rfl ?_
        refine e_getR ci_X9 (dt dk_X9_image 24 rfl) rfl (by decide) rfl fl_X9_70 ?_
        refine e_iload_n (dt dk_X9_image 25 rfl) rfl ?_
        refine e_split (fun h17 => ?_) (fun h17 => ?_)
        · refine e_aald (dt dk_X9_image 26 rfl) rfl (by rw [h17]; decide) (by rw [h17]; rfl) ?_
          refine e_iconst (v := (1 : Int32)) (dt dk_X9_image 27 rfl) (by decide) ?_
          refine e_putI (ty := .boolean) ci_X4 (dt dk_X9_image 28 rfl) rfl (by decide) rfl fl_X9_258 rfl (by decide +kernel) rfl rfl ?_
          refine e_iconst (v := (1 : Int32)) (dt dk_X9_image 29 rfl) (by decide) ?_
          exact e_iret (dt dk_X9_image 30 rfl) rfl rfl rfl
        · refine e_split (fun h18 => ?_) (fun _ => e_none)
          refine e_aald (dt dk_X9_image 26 rfl) rfl (by rw [h18]; decide) (by rw [h18]; rfl) ?_
          refine e_iconst (v := (1 : Int32)) (dt dk_X9_image 27 rfl) (by decide) ?_
          refine e_putI (ty := .boolean) ci_X4 (dt dk_X9_image 28 rfl) rfl (by decide) rfl fl_X9_258 rfl (by decide +kernel) rfl rfl ?_
          refine e_iconst (v := (1 : Int32)) (dt dk_X9_image 29 rfl) (by decide) ?_
          exact e_iret (dt dk_X9_image 30 rfl) rfl rfl rfl
      · refine e_split (fun h15 => ?_) (fun _ => e_none)
        refine e_aald (dt dk_X9_image 18 rfl) rfl (by rw [h15]; decide) (by rw [h15]; rfl) ?_
        refine e_getR ci_X4 (dt dk_X9_image 19 rfl) rfl (by decide) rfl fl_X9_255 ?_
        refine e_aload_n (dt dk_X9_image 20 rfl) rfl ?_
        refine e_getR ci_X9 (dt dk_X9_image 21 rfl) rfl (by decide) rfl fl_X9_43 ?_
        refine ev_call (ca_V (k := 51) mv_X6_become (sp_X6_become_51_19 q13) (dt dk_X9_image 22 rfl) ml_X9_256 rfl rfl rfl rfl rfl (by decide) : Ca _ _ _ _ _ _ _ _ [] _ _) (fun q19 hq19 => ?_)
        show Ev _ _ _ _ _ _ 44 [some (.ref 0), some (.int v1)] [] q19 _
        refine e_aload_n (dt dk_X9_image 23 rfl) rfl ?_
        refine e_getR ci_X9 (dt dk_X9_image 24 rfl) rfl (by decide) rfl fl_X9_70 ?_
        refine e_iload_n (dt dk_X9_image 25 rfl) rfl ?_
        refine e_split (fun h20 => ?_) (fun h20 => ?_)
        · refine e_aald (dt dk_X9_image 26 rfl) rfl (by rw [h20]; decide) (by rw [h20]; rfl) ?_
          refine e_iconst (v := (1 : Int32)) (dt dk_X9_image 27 rfl) (by decide) ?_
          refine e_putI (ty := .boolean) ci_X4 (dt dk_X9_image 28 rfl) rfl (by decide) rfl fl_X9_258 rfl (by decide +kernel) rfl rfl ?_
          refine e_iconst (v := (1 : Int32)) (dt dk_X9_image 29 rfl) (by decide) ?_
          exact e_iret (dt dk_X9_image 30 rfl) rfl rfl rfl
        · refine e_split (fun h21 => ?_) (fun _ => e_none)
          refine e_aald (dt dk_X9_image 26 rfl) rfl (by rw [h21]; decide) (by rw [h21]; rfl) ?_
          refine e_iconst (v := (1 : Int32)) (dt dk_X9_image 27 rfl) (by decide) ?_
          refine e_putI (ty := .boolean) ci_X4 (dt dk_X9_image 28 rfl) rfl (by decide) rfl fl_X9_258 rfl (by decide +kernel) rfl rfl ?_
          refine e_iconst (v := (1 : Int32)) (dt dk_X9_image 29 rfl) (by decide) ?_
          exact e_iret (dt dk_X9_image 30 rfl) rfl rfl rfl
-- X9_restore (W, depth 2)
def f_X9_restore (v1 : Int32) (M : Mem) : Option (Int32 × Mem) :=
  (if (f_X9_within v1 (0 : Int32) (1 : Int32)) = 0 then some ((-2 : Int32), M) else (if v1 = 0 then (if (M 33 2) = 0 then some ((-3 : Int32), M) else (if v1 = 0 then ((f_X8_become_1_34 M)).bind fun q7 => (if v1 = 0 then ((f_X6_become_19_41 q7)).bind fun q10 => some ((1 : Int32), q10) else if v1 = 1 then ((f_X6_become_19_51 q7)).bind fun q11 => some ((1 : Int32), q11) else none) else if v1 = 1 then ((f_X8_become_1_44 M)).bind fun q12 => (if v1 = 0 then ((f_X6_become_19_41 q12)).bind fun q15 => some ((1 : Int32), q15) else if v1 = 1 then ((f_X6_become_19_51 q12)).bind fun q16 => some ((1 : Int32), q16) else none) else none)) else if v1 = 1 then (if (M 43 2) = 0 then some ((-3 : Int32), M) else (if v1 = 0 then ((f_X8_become_1_34 M)).bind fun q20 => (if v1 = 0 then ((f_X6_become_19_41 q20)).bind fun q23 => some ((1 : Int32), q23) else if v1 = 1 then ((f_X6_become_19_51 q20)).bind fun q24 => some ((1 : Int32), q24) else none) else if v1 = 1 then ((f_X8_become_1_44 M)).bind fun q25 => (if v1 = 0 then ((f_X6_become_19_41 q25)).bind fun q28 => some ((1 : Int32), q28) else if v1 = 1 then ((f_X6_become_19_51 q25)).bind fun q29 => some ((1 : Int32), q29) else none) else none)) else none))
set_option maxRecDepth 20000 in
set_option maxHeartbeats 2000000 in
theorem sp_X9_restore (v1 : Int32) (M : Mem) : SpO wI yX9_restore cX9_restore 2 (some .int) 2 [.ref 0, .int v1] M (f_X9_restore v1 M) := by
  refine sp_of (L := [some (.ref 0), some (.int v1)]) rfl (by decide +kernel) rfl rfl ?_
  unfold f_X9_restore
  refine e_iload_n (dt dk_X9_restore 0 rfl) rfl ?_
  refine e_iconst (v := (0 : Int32)) (dt dk_X9_restore 1 rfl) (by decide) ?_
  refine e_iconst (v := (1 : Int32)) (dt dk_X9_restore 2 rfl) (by decide) ?_
  refine ev_callT (ca_S ms_X9_within (sp_X9_within v1 (0 : Int32) (1 : Int32) M) (dt dk_X9_restore 3 rfl) ml_X9_79 rfl rfl rfl (by decide) : Ca _ _ _ _ _ _ _ _ [] _ _) ?_
  show Ev _ _ _ _ _ _ 6 [some (.ref 0), some (.int v1)] [.int (f_X9_within v1 (0 : Int32) (1 : Int32))] M _
  refine e_if_ne 12 (dt dk_X9_restore 4 rfl) (by decide) (fun h1 => ?_) (fun h1 => ?_)
  · refine e_bipush (v := (-2 : Int32)) (dt dk_X9_restore 5 rfl) (by decide) ?_
    exact e_iret (dt dk_X9_restore 6 rfl) rfl rfl rfl
  · refine e_aload_n (dt dk_X9_restore 7 rfl) rfl ?_
    refine e_getR ci_X9 (dt dk_X9_restore 8 rfl) rfl (by decide) rfl fl_X9_70 ?_
    refine e_iload_n (dt dk_X9_restore 9 rfl) rfl ?_
    refine e_split (fun h2 => ?_) (fun h2 => ?_)
    · refine e_aald (dt dk_X9_restore 10 rfl) rfl (by rw [h2]; decide) (by rw [h2]; rfl) ?_
      refine e_getI (v := (M 33 2)) ci_X4 (dt dk_X9_restore 11 rfl) rfl (by decide) rfl fl_X9_258 rfl ?_
      refine e_if_ne 27 (dt dk_X9_restore 12 rfl) (by decide) (fun h4 => ?_) (fun h4 => ?_)
      · refine e_bipush (v := (-3 : Int32)) (dt dk_X9_restore 13 rfl) (by decide) ?_
        exact e_iret (dt dk_X9_restore 14 rfl) rfl rfl rfl
      · refine e_aload_n (dt dk_X9_restore 15 rfl) rfl ?_
        refine e_getR ci_X9 (dt dk_X9_restore 16 rfl) rfl (by decide) rfl fl_X9_10 ?_
        refine e_aload_n (dt dk_X9_restore 17 rfl) rfl ?_
        refine e_getR ci_X9 (dt dk_X9_restore 18 rfl) rfl (by decide) rfl fl_X9_70 ?_
        refine e_iload_n (dt dk_X9_restore 19 rfl) rfl ?_
        refine e_split (fun h5 => ?_) (fun h5 => ?_)
        · refine e_aald (dt dk_X9_restore 20 rfl) rfl (by rw [h5]; decide) (by rw [h5]; rfl) ?_
          refine e_getR ci_X4 (dt dk_X9_restore 21 rfl) rfl (by decide) rfl fl_X9_252 ?_
          refine ev_call (ca_V (k := 1) mv_X8_become (sp_X8_become_1_34 M) (dt dk_X9_restore 22 rfl) ml_X9_152 rfl rfl rfl rfl rfl (by decide) : Ca _ _ _ _ _ _ _ _ [] _ _) (fun q7 hq7 => ?_)
          show Ev _ _ _ _ _ _ 43 [some (.ref 0), some (.int v1)] [] q7 _
          refine e_aload_n (dt dk_X9_restore 23 rfl) rfl ?_
          refine e_getR ci_X9 (dt dk_X9_restore 24 rfl) rfl (by decide) rfl fl_X9_43 ?_
          refine e_aload_n (dt dk_X9_restore 25 rfl) rfl ?_
          refine e_getR ci_X9 (dt dk_X9_restore 26 rfl) rfl (by decide) rfl fl_X9_70 ?_
          refine e_iload_n (dt dk_X9_restore 27 rfl) rfl ?_
          refine e_split (fun h8 => ?_) (fun h8 => ?_)
          · refine e_aald (dt dk_X9_restore 28 rfl) rfl (by rw [h8]; decide) (by rw [h8]; rfl) ?_
            refine e_getR ci_X4 (dt dk_X9_restore 29 rfl) rfl (by decide) rfl fl_X9_255 ?_
            refine ev_call (ca_V (k := 19) mv_X6_become (sp_X6_become_19_41 q7) (dt dk_X9_restore 30 rfl) ml_X9_256 rfl rfl rfl rfl rfl (by decide) : Ca _ _ _ _ _ _ _ _ [] _ _) (fun q10 hq10 => ?_)
            show Ev _ _ _ _ _ _ 59 [some (.ref 0), some (.int v1)] [] q10 _
            refine e_iconst (v := (1 : Int32)) (dt dk_X9_restore 31 rfl) (by decide) ?_
            exact e_iret (dt dk_X9_restore 32 rfl) rfl rfl rfl
          · refine e_split (fun h9 => ?_) (fun _ => e_none)
            refine e_aald (dt dk_X9_restore 28 rfl) rfl (by rw [h9]; decide) (by rw [h9]; rfl) ?_
            refine e_getR ci_X4 (dt dk_X9_restore 29 rfl) rfl (by decide) rfl fl_X9_255 ?_
            refine ev_call (ca_V (k := 19) mv_X6_become (sp_X6_become_19_51 q7) (dt dk_X9_restore 30 rfl) ml_X9_256 rfl rfl rfl rfl rfl (by decide) : Ca _ _ _ _ _ _ _ _ [] _ _) (fun q11 hq11 => ?_)
            show Ev _ _ _ _ _ _ 59 [some (.ref 0), some (.int v1)] [] q11 _
            refine e_iconst (v := (1 : Int32)) (dt dk_X9_restore 31 rfl) (by decide) ?_
            exact e_iret (dt dk_X9_restore 32 rfl) rfl rfl rfl
        · refine e_split (fun h6 => ?_) (fun _ => e_none)
          refine e_aald (dt dk_X9_restore 20 rfl) rfl (by rw [h6]; decide) (by rw [h6]; rfl) ?_
          refine e_getR ci_X4 (dt dk_X9_restore 21 rfl) rfl (by decide) rfl fl_X9_252 ?_
          refine ev_call (ca_V (k := 1) mv_X8_become (sp_X8_become_1_44 M) (dt dk_X9_restore 22 rfl) ml_X9_152 rfl rfl rfl rfl rfl (by decide) : Ca _ _ _ _ _ _ _ _ [] _ _) (fun q12 hq12 => ?_)
          show Ev _ _ _ _ _ _ 43 [some (.ref 0), some (.int v1)] [] q12 _
          refine e_aload_n (dt dk_X9_restore 23 rfl) rfl ?_
          refine e_getR ci_X9 (dt dk_X9_restore 24 rfl) rfl (by decide) rfl fl_X9_43 ?_
          refine e_aload_n (dt dk_X9_restore 25 rfl) rfl ?_
          refine e_getR ci_X9 (dt dk_X9_restore 26 rfl) rfl (by decide) rfl fl_X9_70 ?_
          refine e_iload_n (dt dk_X9_restore 27 rfl) rfl ?_
          refine e_split (fun h13 => ?_) (fun h13 => ?_)
          · refine e_aald (dt dk_X9_restore 28 rfl) rfl (by rw [h13]; decide) (by rw [h13]; rfl) ?_
            refine e_getR ci_X4 (dt dk_X9_restore 29 rfl) rfl (by decide) rfl fl_X9_255 ?_
            refine ev_call (ca_V (k := 19) mv_X6_become (sp_X6_become_19_41 q12) (dt dk_X9_restore 30 rfl) ml_X9_256 rfl rfl rfl rfl rfl (by decide) : Ca _ _ _ _ _ _ _ _ [] _ _) (fun q15 hq15 => ?_)
            show Ev _ _ _ _ _ _ 59 [some (.ref 0), some (.int v1)] [] q15 _
            refine e_iconst (v := (1 : Int32)) (dt dk_X9_restore 31 rfl) (by decide) ?_
            exact e_iret (dt dk_X9_restore 32 rfl) rfl rfl rfl
          · refine e_split (fun h14 => ?_) (fun _ => e_none)
            refine e_aald (dt dk_X9_restore 28 rfl) rfl (by rw [h14]; decide) (by rw [h14]; rfl) ?_
            refine e_getR ci_X4 (dt dk_X9_restore 29 rfl) rfl (by decide) rfl fl_X9_255 ?_
            refine ev_call (ca_V (k := 19) mv_X6_become (sp_X6_become_19_51 q12) (dt dk_X9_restore 30 rfl) ml_X9_256 rfl rfl rfl rfl rfl (by decide) : Ca _ _ _ _ _ _ _ _ [] _ _) (fun q16 hq16 => ?_)
            show Ev _ _ _ _ _ _ 59 [some (.ref 0), some (.int v1)] [] q16 _
            refine e_iconst (v := (1 : Int32)) (dt dk_X9_restore 31 rfl) (by decide) ?_
            exact e_iret (dt dk_X9_restore 32 rfl) rfl rfl rfl
    · refine e_split (fun h3 => ?_) (fun _ => e_none)
      refine e_aald (dt dk_X9_restore 10 rfl) rfl (by rw [h3]; decide) (by rw [h3]; rfl) ?_
      refine e_getI (v := (M 43 2)) ci_X4 (dt dk_X9_restore 11 rfl) rfl (by decide) rfl fl_X9_258 rfl ?_
      refine e_if_ne 27 (dt dk_X9_restore 12 rfl) (by decide) (fun h17 => ?_) (fun h17 => ?_)
      · refine e_bipush (v := (-3 : Int32)) (dt dk_X9_restore 13 rfl) (by decide) ?_
        exact e_iret (dt dk_X9_restore 14 rfl) rfl rfl rfl
      · refine e_aload_n (dt dk_X9_restore 15 rfl) rfl ?_
        refine e_getR ci_X9 (dt dk_X9_restore 16 rfl) rfl (by decide) rfl fl_X9_10 ?_
        refine e_aload_n (dt dk_X9_restore 17 rfl) rfl ?_
        refine e_getR ci_X9 (dt dk_X9_restore 18 rfl) rfl (by decide) rfl fl_X9_70 ?_
        refine e_iload_n (dt dk_X9_restore 19 rfl) rfl ?_
        refine e_split (fun h18 => ?_) (fun h18 => ?_)
        · refine e_aald (dt dk_X9_restore 20 rfl) rfl (by rw [h18]; decide) (by rw [h18]; rfl) ?_
          refine e_getR ci_X4 (dt dk_X9_restore 21 rfl) rfl (by decide) rfl fl_X9_252 ?_
          refine ev_call (ca_V (k := 1) mv_X8_become (sp_X8_become_1_34 M) (dt dk_X9_restore 22 rfl) ml_X9_152 rfl rfl rfl rfl rfl (by decide) : Ca _ _ _ _ _ _ _ _ [] _ _) (fun q20 hq20 => ?_)
          show Ev _ _ _ _ _ _ 43 [some (.ref 0), some (.int v1)] [] q20 _
          refine e_aload_n (dt dk_X9_restore 23 rfl) rfl ?_
          refine e_getR ci_X9 (dt dk_X9_restore 24 rfl) rfl (by decide) rfl fl_X9_43 ?_
          refine e_aload_n (dt dk_X9_restore 25 rfl) rfl ?_
          refine e_getR ci_X9 (dt dk_X9_restore 26 rfl) rfl (by decide) rfl fl_X9_70 ?_
          refine e_iload_n (dt dk_X9_restore 27 rfl) rfl ?_
          refine e_split (fun h21 => ?_) (fun h21 => ?_)
          · refine e_aald (dt dk_X9_restore 28 rfl) rfl (by rw [h21]; decide) (by rw [h21]; rfl) ?_
            refine e_getR ci_X4 (dt dk_X9_restore 29 rfl) rfl (by decide) rfl fl_X9_255 ?_
            refine ev_call (ca_V (k := 19) mv_X6_become (sp_X6_become_19_41 q20) (dt dk_X9_restore 30 rfl) ml_X9_256 rfl rfl rfl rfl rfl (by decide) : Ca _ _ _ _ _ _ _ _ [] _ _) (fun q23 hq23 => ?_)
            show Ev _ _ _ _ _ _ 59 [some (.ref 0), some (.int v1)] [] q23 _
            refine e_iconst (v := (1 : Int32)) (dt dk_X9_restore 31 rfl) (by decide) ?_
            exact e_iret (dt dk_X9_restore 32 rfl) rfl rfl rfl
          · refine e_split (fun h22 => ?_) (fun _ => e_none)
            refine e_aald (dt dk_X9_restore 28 rfl) rfl (by rw [h22]; decide) (by rw [h22]; rfl) ?_
            refine e_getR ci_X4 (dt dk_X9_restore 29 rfl) rfl (by decide) rfl fl_X9_255 ?_
            refine ev_call (ca_V (k := 19) mv_X6_become (sp_X6_become_19_51 q20) (dt dk_X9_restore 30 rfl) ml_X9_256 rfl rfl rfl rfl rfl (by decide) : Ca _ _ _ _ _ _ _ _ [] _ _) (fun q24 hq24 => ?_)
            show Ev _ _ _ _ _ _ 59 [some (.ref 0), some (.int v1)] [] q24 _
            refine e_iconst (v := (1 : Int32)) (dt dk_X9_restore 31 rfl) (by decide) ?_
            exact e_iret (dt dk_X9_restore 32 rfl) rfl rfl rfl
        · refine e_split (fun h19 => ?_) (fun _ => e_none)
          refine e_aald (dt dk_X9_restore 20 rfl) rfl (by rw [h19]; decide) (by rw [h19]; rfl) ?_
          refine e_getR ci_X4 (dt dk_X9_restore 21 rfl) rfl (by decide) rfl fl_X9_252 ?_
          refine ev_call (ca_V (k := 1) mv_X8_become (sp_X8_become_1_44 M) (dt dk_X9_restore 22 rfl) ml_X9_152 rfl rfl rfl rfl rfl (by decide) : Ca _ _ _ _ _ _ _ _ [] _ _) (fun q25 hq25 => ?_)
          show Ev _ _ _ _ _ _ 43 [some (.ref 0), some (.int v1)] [] q25 _
          refine e_aload_n (dt dk_X9_restore 23 rfl) rfl ?_
          refine e_getR ci_X9 (dt dk_X9_restore 24 rfl) rfl (by decide) rfl fl_X9_43 ?_
          refine e_aload_n (dt dk_X9_restore 25 rfl) rfl ?_
          refine e_getR ci_X9 (dt dk_X9_restore 26 rfl) rfl (by decide) rfl fl_X9_70 ?_
          refine e_iload_n (dt dk_X9_restore 27 rfl) rfl ?_
          refine e_split (fun h26 => ?_) (fun h26 => ?_)
          · refine e_aald (dt dk_X9_restore 28 rfl) rfl (by rw [h26]; decide) (by rw [h26]; rfl) ?_
            refine e_getR ci_X4 (dt dk_X9_restore 29 rfl) rfl (by decide) rfl fl_X9_255 ?_
            refine ev_call (ca_V (k := 19) mv_X6_become (sp_X6_become_19_41 q25) (dt dk_X9_restore 30 rfl) ml_X9_256 rfl rfl rfl rfl rfl (by decide) : Ca _ _ _ _ _ _ _ _ [] _ _) (fun q28 hq28 => ?_)
            show Ev _ _ _ _ _ _ 59 [some (.ref 0), some (.int v1)] [] q28 _
            refine e_iconst (v := (1 : Int32)) (dt dk_X9_restore 31 rfl) (by decide) ?_
            exact e_iret (dt dk_X9_restore 32 rfl) rfl rfl rfl
          · refine e_split (fun h27 => ?_) (fun _ => e_none)
            refine e_aald (dt dk_X9_restore 28 rfl) rfl (by rw [h27]; decide) (by rw [h27]; rfl) ?_
            refine e_getR ci_X4 (dt dk_X9_restore 29 rfl) rfl (by decide) rfl fl_X9_255 ?_
            refine ev_call (ca_V (k := 19) mv_X6_become (sp_X6_become_19_51 q25) (dt dk_X9_restore 30 rfl) ml_X9_256 rfl rfl rfl rfl rfl (by decide) : Ca _ _ _ _ _ _ _ _ [] _ _) (fun q29 hq29 => ?_)
            show Ev _ _ _ _ _ _ 59 [some (.ref 0), some (.int v1)] [] q29 _
            refine e_iconst (v := (1 : Int32)) (dt dk_X9_restore 31 rfl) (by decide) ?_
            exact e_iret (dt dk_X9_restore 32 rfl) rfl rfl rfl
-- X9_told (R, depth 2)
def f_X9_told (v1 : Int32) (M : Mem) : Option Int32 :=
  (if (f_X9_within v1 (10 : Int32) (17 : Int32)) = 0 then (if (f_X9_within v1 (100 : Int32) (179 : Int32)) = 0 then (if v1 = (0 : Int32) then some (M 15 1) else if v1 = (1 : Int32) then ((f_X8_clearHouses_1 M)).bind fun r5 => some r5 else if v1 = (2 : Int32) then some (M 1 6) else if v1 = (3 : Int32) then some (M 1 7) else if v1 = (4 : Int32) then some (M 1 8) else if v1 = (5 : Int32) then some (M 19 1) else some (-2 : Int32)) else (if (3 : Int32) < (remI v1 (10 : Int32)) then some (-2 : Int32) else ((f_X8_ofHouse_1 ((v1 - (100 : Int32)) / (10 : Int32)) (remI v1 (10 : Int32)) M)).bind fun r11 => some r11)) else if inb (v1 - (10 : Int32)) 8 then some (M 6 (ix (v1 - (10 : Int32)))) else none)
set_option maxRecDepth 20000 in
set_option maxHeartbeats 2000000 in
theorem sp_X9_told (v1 : Int32) (M : Mem) : SpO (wR M) yX9_told cX9_told 3 (some .int) 2 [.ref 0, .int v1] M (f_X9_told v1 M) := by
  refine sp_of (L := [some (.ref 0), some (.int v1), none]) rfl (by decide +kernel) rfl rfl ?_
  unfold f_X9_told
  refine e_iload_n (dt dk_X9_told 0 rfl) rfl ?_
  refine e_bipush (v := (10 : Int32)) (dt dk_X9_told 1 rfl) (by decide) ?_
  refine e_bipush (v := (17 : Int32)) (dt dk_X9_told 2 rfl) (by decide) ?_
  refine ev_callT (ca_S ms_X9_within (sp_X9_within v1 (10 : Int32) (17 : Int32) M) (dt dk_X9_told 3 rfl) ml_X9_79 rfl rfl rfl (by decide) : Ca _ _ _ _ _ _ _ _ [] _ _) ?_
  show Ev _ _ _ _ _ _ 8 [some (.ref 0), some (.int v1), none] [.int (f_X9_within v1 (10 : Int32) (17 : Int32))] M _
  refine e_if_eq 24 (dt dk_X9_told 4 rfl) (by decide) (fun h1 => ?_) (fun h1 => ?_)
  · refine e_iload_n (dt dk_X9_told 13 rfl) rfl ?_
    refine e_bipush (v := (100 : Int32)) (dt dk_X9_told 14 rfl) (by decide) ?_
    refine e_sipush (v := (179 : Int32)) (dt dk_X9_told 15 rfl) (by decide) ?_
    refine ev_callT (ca_S ms_X9_within (sp_X9_within v1 (100 : Int32) (179 : Int32) M) (dt dk_X9_told 16 rfl) ml_X9_79 rfl rfl rfl (by decide) : Ca _ _ _ _ _ _ _ _ [] _ _) ?_
    show Ev _ _ _ _ _ _ 33 [some (.ref 0), some (.int v1), none] [.int (f_X9_within v1 (100 : Int32) (179 : Int32))] M _
    refine e_if_eq 67 (dt dk_X9_told 17 rfl) (by decide) (fun h2 => ?_) (fun h2 => ?_)
    · refine e_iload_n (dt dk_X9_told 37 rfl) rfl ?_
      refine e_split (fun h3 => ?_) (fun h3 => ?_)
      · refine e_tableIn 108 (dt dk_X9_told 38 rfl) (by rw [h3]; decide) (by rw [h3]; decide) (by rw [h3]; rfl) (by decide) ?_
        refine e_aload_n (dt dk_X9_told 39 rfl) rfl ?_
        refine e_getR ci_X9 (dt dk_X9_told 40 rfl) rfl (by decide) rfl fl_X9_22 ?_
        refine e_getI (v := (M 15 1)) ci_X5 (dt dk_X9_told 41 rfl) rfl (by decide) rfl fl_X9_115 rfl ?_
        exact e_iret (dt dk_X9_told 42 rfl) rfl rfl rfl
      · skip
        refine e_split (fun h4 => ?_) (fun h4 => ?_)
        · refine e_tableIn 116 (dt dk_X9_told 38 rfl) (by rw [h4]; decide) (by rw [h4]; decide) (by rw [h4]; rfl) (by decide) ?_
          refine e_aload_n (dt dk_X9_told 43 rfl) rfl ?_
          refine e_getR ci_X9 (dt dk_X9_told 44 rfl) rfl (by decide) rfl fl_X9_10 ?_
          refine ev_call (ca_V (k := 1) mv_X8_clearHouses (sp_X8_clearHouses_1 M) (dt dk_X9_told 45 rfl) ml_X9_143 rfl rfl rfl rfl rfl (by decide) : Ca _ _ _ _ _ _ _ _ [] _ _) (fun r5 hr5 => ?_)
          show Ev _ _ _ _ _ _ 123 [some (.ref 0), some (.int v1), none] [.int r5] M _
          exact e_iret (dt dk_X9_told 46 rfl) rfl rfl rfl
        · skip
          refine e_split (fun h6 => ?_) (fun h6 => ?_)
          · refine e_tableIn 124 (dt dk_X9_told 38 rfl) (by rw [h6]; decide) (by rw [h6]; decide) (by rw [h6]; rfl) (by decide) ?_
            refine e_aload_n (dt dk_X9_told 47 rfl) rfl ?_
            refine e_getR ci_X9 (dt dk_X9_told 48 rfl) rfl (by decide) rfl fl_X9_10 ?_
            refine e_getI (v := (M 1 6)) ci_X8 (dt dk_X9_told 49 rfl) rfl (by decide) rfl fl_X9_108 rfl ?_
            exact e_iret (dt dk_X9_told 50 rfl) rfl rfl rfl
          · skip
            refine e_split (fun h7 => ?_) (fun h7 => ?_)
            · refine e_tableIn 132 (dt dk_X9_told 38 rfl) (by rw [h7]; decide) (by rw [h7]; decide) (by rw [h7]; rfl) (by decide) ?_
              refine e_aload_n (dt dk_X9_told 51 rfl) rfl ?_
              refine e_getR ci_X9 (dt dk_X9_told 52 rfl) rfl (by decide) rfl fl_X9_10 ?_
              refine e_getI (v := (M 1 7)) ci_X8 (dt dk_X9_told 53 rfl) rfl (by decide) rfl fl_X9_130 rfl ?_
              exact e_iret (dt dk_X9_told 54 rfl) rfl rfl rfl
            · skip
              refine e_split (fun h8 => ?_) (fun h8 => ?_)
              · refine e_tableIn 140 (dt dk_X9_told 38 rfl) (by rw [h8]; decide) (by rw [h8]; decide) (by rw [h8]; rfl) (by decide) ?_
                refine e_aload_n (dt dk_X9_told 55 rfl) rfl ?_
                refine e_getR ci_X9 (dt dk_X9_told 56 rfl) rfl (by decide) rfl fl_X9_10 ?_
                refine e_getI (v := (M 1 8)) ci_X8 (dt dk_X9_told 57 rfl) rfl (by decide) rfl fl_X9_140 rfl ?_
                exact e_iret (dt dk_X9_told 58 rfl) rfl rfl rfl
              · skip
                refine e_split (fun h9 => ?_) (fun h9 => ?_)
                · refine e_tableIn 148 (dt dk_X9_told 38 rfl) (by rw [h9]; decide) (by rw [h9]; decide) (by rw [h9]; rfl) (by decide) ?_
                  refine e_aload_n (dt dk_X9_told 59 rfl) rfl ?_
                  refine e_getR ci_X9 (dt dk_X9_told 60 rfl) rfl (by decide) rfl fl_X9_43 ?_
                  refine e_getI (v := (M 19 1)) ci_X6 (dt dk_X9_told 61 rfl) rfl (by decide) rfl fl_X9_193 rfl ?_
                  exact e_iret (dt dk_X9_told 62 rfl) rfl rfl rfl
                · skip
                  refine e_tableOut 156 (dt dk_X9_told 38 rfl) (sw_out 5 (by simp only [List.range, List.range.loop, List.all_cons, List.all_nil]; simp [h3, h4, h6, h7, h8, h9])) (by decide) ?_
                  refine e_bipush (v := (-2 : Int32)) (dt dk_X9_told 63 rfl) (by decide) ?_
                  exact e_iret (dt dk_X9_told 64 rfl) rfl rfl rfl
    · refine e_iload_n (dt dk_X9_told 18 rfl) rfl ?_
      refine e_bipush (v := (10 : Int32)) (dt dk_X9_told 19 rfl) (by decide) ?_
      refine e_irem' (dt dk_X9_told 20 rfl) (by decide) ?_
      show Ev _ _ _ _ _ _ 40 [some (.ref 0), some (.int v1), none] [.int (remI v1 (10 : Int32))] M _
      refine e_istore_n [some (.ref 0), some (.int v1), some (.int (remI v1 (10 : Int32)))] (dt dk_X9_told 21 rfl) rfl rfl rfl ?_
      refine e_iload_n (dt dk_X9_told 22 rfl) rfl ?_
      refine e_iconst (v := (3 : Int32)) (dt dk_X9_told 23 rfl) (by decide) ?_
      refine e_icmp_gt 64 (dt dk_X9_told 24 rfl) (by decide) (fun h10 => ?_) (fun h10 => ?_)
      · refine e_bipush (v := (-2 : Int32)) (dt dk_X9_told 35 rfl) (by decide) ?_
        exact e_iret (dt dk_X9_told 36 rfl) rfl rfl rfl
      · refine e_aload_n (dt dk_X9_told 25 rfl) rfl ?_
        refine e_getR ci_X9 (dt dk_X9_told 26 rfl) rfl (by decide) rfl fl_X9_10 ?_
        refine e_iload_n (dt dk_X9_told 27 rfl) rfl ?_
        refine e_bipush (v := (100 : Int32)) (dt dk_X9_told 28 rfl) (by decide) ?_
        refine e_isub (dt dk_X9_told 29 rfl) ?_
        refine e_bipush (v := (10 : Int32)) (dt dk_X9_told 30 rfl) (by decide) ?_
        refine e_idiv' (dt dk_X9_told 31 rfl) (by decide) ?_
        show Ev _ _ _ _ _ _ 57 [some (.ref 0), some (.int v1), some (.int (remI v1 (10 : Int32)))] [.int ((v1 - (100 : Int32)) / (10 : Int32)), .ref 1] M _
        refine e_iload_n (dt dk_X9_told 32 rfl) rfl ?_
        refine ev_call (ca_V (k := 1) mv_X8_ofHouse (sp_X8_ofHouse_1 ((v1 - (100 : Int32)) / (10 : Int32)) (remI v1 (10 : Int32)) M) (dt dk_X9_told 33 rfl) ml_X9_133 rfl rfl rfl rfl rfl (by decide) : Ca _ _ _ _ _ _ _ _ [] _ _) (fun r11 hr11 => ?_)
        show Ev _ _ _ _ _ _ 61 [some (.ref 0), some (.int v1), some (.int (remI v1 (10 : Int32)))] [.int r11] M _
        refine e_goto 66 (dt dk_X9_told 34 rfl) (by decide) ?_
        exact e_iret (dt dk_X9_told 36 rfl) rfl rfl rfl
  · refine e_aload_n (dt dk_X9_told 5 rfl) rfl ?_
    refine e_getR ci_X9 (dt dk_X9_told 6 rfl) rfl (by decide) rfl fl_X9_10 ?_
    refine e_getR ci_X8 (dt dk_X9_told 7 rfl) rfl (by decide) rfl fl_X9_208 ?_
    refine e_iload_n (dt dk_X9_told 8 rfl) rfl ?_
    refine e_bipush (v := (10 : Int32)) (dt dk_X9_told 9 rfl) (by decide) ?_
    refine e_isub (dt dk_X9_told 10 rfl) ?_
    refine e_if (fun h12 => ?_)
    refine e_iald' (v := (M 6 (ix (v1 - (10 : Int32))))) (dt dk_X9_told 11 rfl) rfl h12 rfl ?_
    exact e_iret (dt dk_X9_told 12 rfl) rfl rfl rfl
end
