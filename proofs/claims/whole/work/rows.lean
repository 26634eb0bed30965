section
/-- a private method of a class that the tables say can be made, by its rows of tables_1 -/
def lw_okq (q : MethodName × Nat) : Prop := (q.1.cls ≠ "java/lang/invoke/MethodHandle" ∧ q.1.cls ≠ "java/lang/invoke/VarHandle") ∧ Cond.instantiable q.1.cls q.2 ∈ tables_1 ∧ Cond.privateMethod q.1 ∈ tables_1 ∧ Cond.instanceMethod q.1 ∈ tables_1
theorem lw_p0 : lw_okq (⟨"WireWalkers", "textOf", "(I)LWireWalkers$Text;"⟩, 16) := ⟨⟨by decide +kernel, by decide +kernel⟩, List.mem_of_getElem? (i := 14) (by decide +kernel), List.mem_of_getElem? (i := 304) (by decide +kernel), List.mem_of_getElem? (i := 305) (by decide +kernel)⟩
theorem lw_p1 : lw_okq (⟨"WireWalkers", "takeTexts", "()V"⟩, 16) := ⟨⟨by decide +kernel, by decide +kernel⟩, List.mem_of_getElem? (i := 14) (by decide +kernel), List.mem_of_getElem? (i := 316) (by decide +kernel), List.mem_of_getElem? (i := 317) (by decide +kernel)⟩
theorem lw_p2 : lw_okq (⟨"WireWalkers", "forgetShows", "()V"⟩, 16) := ⟨⟨by decide +kernel, by decide +kernel⟩, List.mem_of_getElem? (i := 14) (by decide +kernel), List.mem_of_getElem? (i := 356) (by decide +kernel), List.mem_of_getElem? (i := 357) (by decide +kernel)⟩
theorem lw_p3 : lw_okq (⟨"WireWalkers", "isWalker", "(I)Z"⟩, 16) := ⟨⟨by decide +kernel, by decide +kernel⟩, List.mem_of_getElem? (i := 14) (by decide +kernel), List.mem_of_getElem? (i := 378) (by decide +kernel), List.mem_of_getElem? (i := 379) (by decide +kernel)⟩
theorem lw_p4 : lw_okq (⟨"WireWalkers", "found", "(I)I"⟩, 16) := ⟨⟨by decide +kernel, by decide +kernel⟩, List.mem_of_getElem? (i := 14) (by decide +kernel), List.mem_of_getElem? (i := 421) (by decide +kernel), List.mem_of_getElem? (i := 422) (by decide +kernel)⟩
theorem lw_p5 : lw_okq (⟨"WireWalkers", "shown", "()LWireWalkers$Show;"⟩, 16) := ⟨⟨by decide +kernel, by decide +kernel⟩, List.mem_of_getElem? (i := 14) (by decide +kernel), List.mem_of_getElem? (i := 429) (by decide +kernel), List.mem_of_getElem? (i := 430) (by decide +kernel)⟩
theorem lw_p6 : lw_okq (⟨"WireWalkers$Show", "prepare", "(LWireWalkers$Told;I)V"⟩, 15) := ⟨⟨by decide +kernel, by decide +kernel⟩, List.mem_of_getElem? (i := 124) (by decide +kernel), List.mem_of_getElem? (i := 438) (by decide +kernel), List.mem_of_getElem? (i := 439) (by decide +kernel)⟩
theorem lw_p7 : lw_okq (⟨"WireWalkers$Weather", "add", "(III)V"⟩, 3) := ⟨⟨by decide +kernel, by decide +kernel⟩, List.mem_of_getElem? (i := 130) (by decide +kernel), List.mem_of_getElem? (i := 450) (by decide +kernel), List.mem_of_getElem? (i := 451) (by decide +kernel)⟩
theorem lw_p8 : lw_okq (⟨"WireWalkers$Show", "playBeat", "(LWireWalkers$Told;[III)V"⟩, 15) := ⟨⟨by decide +kernel, by decide +kernel⟩, List.mem_of_getElem? (i := 124) (by decide +kernel), List.mem_of_getElem? (i := 454) (by decide +kernel), List.mem_of_getElem? (i := 455) (by decide +kernel)⟩
theorem lw_p9 : lw_okq (⟨"WireWalkers$Show", "dropPoles", "(I)V"⟩, 15) := ⟨⟨by decide +kernel, by decide +kernel⟩, List.mem_of_getElem? (i := 124) (by decide +kernel), List.mem_of_getElem? (i := 459) (by decide +kernel), List.mem_of_getElem? (i := 460) (by decide +kernel)⟩
theorem lw_p10 : lw_okq (⟨"WireWalkers$Show", "perform", "(LWireWalkers$Told;IIII)V"⟩, 15) := ⟨⟨by decide +kernel, by decide +kernel⟩, List.mem_of_getElem? (i := 124) (by decide +kernel), List.mem_of_getElem? (i := 464) (by decide +kernel), List.mem_of_getElem? (i := 465) (by decide +kernel)⟩
theorem lw_p11 : lw_okq (⟨"WireWalkers$Show", "settle", "(LWireWalkers$Told;II)V"⟩, 15) := ⟨⟨by decide +kernel, by decide +kernel⟩, List.mem_of_getElem? (i := 124) (by decide +kernel), List.mem_of_getElem? (i := 474) (by decide +kernel), List.mem_of_getElem? (i := 475) (by decide +kernel)⟩
theorem lw_p12 : lw_okq (⟨"WireWalkers$Show", "startNext", "(LWireWalkers$Told;I)V"⟩, 15) := ⟨⟨by decide +kernel, by decide +kernel⟩, List.mem_of_getElem? (i := 124) (by decide +kernel), List.mem_of_getElem? (i := 479) (by decide +kernel), List.mem_of_getElem? (i := 480) (by decide +kernel)⟩
theorem lw_p13 : lw_okq (⟨"WireWalkers$Show", "noteBeat", "(III)V"⟩, 15) := ⟨⟨by decide +kernel, by decide +kernel⟩, List.mem_of_getElem? (i := 124) (by decide +kernel), List.mem_of_getElem? (i := 483) (by decide +kernel), List.mem_of_getElem? (i := 484) (by decide +kernel)⟩
theorem lw_p14 : lw_okq (⟨"WireWalkers", "firstOver", "()I"⟩, 16) := ⟨⟨by decide +kernel, by decide +kernel⟩, List.mem_of_getElem? (i := 14) (by decide +kernel), List.mem_of_getElem? (i := 537) (by decide +kernel), List.mem_of_getElem? (i := 538) (by decide +kernel)⟩
theorem lw_p15 : lw_okq (⟨"WireWalkers", "farthestLeaning", "()I"⟩, 16) := ⟨⟨by decide +kernel, by decide +kernel⟩, List.mem_of_getElem? (i := 14) (by decide +kernel), List.mem_of_getElem? (i := 541) (by decide +kernel), List.mem_of_getElem? (i := 542) (by decide +kernel)⟩
def lw_privs_1 : List (MethodName × Nat) := [(⟨"WireWalkers", "textOf", "(I)LWireWalkers$Text;"⟩, 16), (⟨"WireWalkers", "takeTexts", "()V"⟩, 16), (⟨"WireWalkers", "forgetShows", "()V"⟩, 16), (⟨"WireWalkers", "isWalker", "(I)Z"⟩, 16), (⟨"WireWalkers", "found", "(I)I"⟩, 16), (⟨"WireWalkers", "shown", "()LWireWalkers$Show;"⟩, 16), (⟨"WireWalkers$Show", "prepare", "(LWireWalkers$Told;I)V"⟩, 15), (⟨"WireWalkers$Weather", "add", "(III)V"⟩, 3), (⟨"WireWalkers$Show", "playBeat", "(LWireWalkers$Told;[III)V"⟩, 15), (⟨"WireWalkers$Show", "dropPoles", "(I)V"⟩, 15), (⟨"WireWalkers$Show", "perform", "(LWireWalkers$Told;IIII)V"⟩, 15), (⟨"WireWalkers$Show", "settle", "(LWireWalkers$Told;II)V"⟩, 15), (⟨"WireWalkers$Show", "startNext", "(LWireWalkers$Told;I)V"⟩, 15), (⟨"WireWalkers$Show", "noteBeat", "(III)V"⟩, 15), (⟨"WireWalkers", "firstOver", "()I"⟩, 16), (⟨"WireWalkers", "farthestLeaning", "()I"⟩, 16)]
theorem lw_r1 : ∀ q ∈ lw_privs_1, lw_okq q := List.forall_mem_cons.mpr ⟨lw_p0, List.forall_mem_cons.mpr ⟨lw_p1, List.forall_mem_cons.mpr ⟨lw_p2, List.forall_mem_cons.mpr ⟨lw_p3, List.forall_mem_cons.mpr ⟨lw_p4, List.forall_mem_cons.mpr ⟨lw_p5, List.forall_mem_cons.mpr ⟨lw_p6, List.forall_mem_cons.mpr ⟨lw_p7, List.forall_mem_cons.mpr ⟨lw_p8, List.forall_mem_cons.mpr ⟨lw_p9, List.forall_mem_cons.mpr ⟨lw_p10, List.forall_mem_cons.mpr ⟨lw_p11, List.forall_mem_cons.mpr ⟨lw_p12, List.forall_mem_cons.mpr ⟨lw_p13, List.forall_mem_cons.mpr ⟨lw_p14, List.forall_mem_cons.mpr ⟨lw_p15, fun _ h => absurd h List.not_mem_nil⟩⟩⟩⟩⟩⟩⟩⟩⟩⟩⟩⟩⟩⟩⟩⟩
theorem lw_p16 : lw_okq (⟨"WireWalkers", "chooseFor", "([III)V"⟩, 16) := ⟨⟨by decide +kernel, by decide +kernel⟩, List.mem_of_getElem? (i := 14) (by decide +kernel), List.mem_of_getElem? (i := 553) (by decide +kernel), List.mem_of_getElem? (i := 554) (by decide +kernel)⟩
theorem lw_p17 : lw_okq (⟨"WireWalkers", "spareFewest", "()I"⟩, 16) := ⟨⟨by decide +kernel, by decide +kernel⟩, List.mem_of_getElem? (i := 14) (by decide +kernel), List.mem_of_getElem? (i := 569) (by decide +kernel), List.mem_of_getElem? (i := 570) (by decide +kernel)⟩
theorem lw_p18 : lw_okq (⟨"WireWalkers", "nobodyFallsWithout", "(I)Z"⟩, 16) := ⟨⟨by decide +kernel, by decide +kernel⟩, List.mem_of_getElem? (i := 14) (by decide +kernel), List.mem_of_getElem? (i := 573) (by decide +kernel), List.mem_of_getElem? (i := 574) (by decide +kernel)⟩
theorem lw_p19 : lw_okq (⟨"WireWalkers", "fittingPoles", "(I)I"⟩, 16) := ⟨⟨by decide +kernel, by decide +kernel⟩, List.mem_of_getElem? (i := 14) (by decide +kernel), List.mem_of_getElem? (i := 606) (by decide +kernel), List.mem_of_getElem? (i := 607) (by decide +kernel)⟩
theorem lw_p20 : lw_okq (⟨"WireWalkers", "markPlaces", "(I)V"⟩, 16) := ⟨⟨by decide +kernel, by decide +kernel⟩, List.mem_of_getElem? (i := 14) (by decide +kernel), List.mem_of_getElem? (i := 610) (by decide +kernel), List.mem_of_getElem? (i := 611) (by decide +kernel)⟩
theorem lw_p21 : lw_okq (⟨"WireWalkers", "fittingSorts", "(I)I"⟩, 16) := ⟨⟨by decide +kernel, by decide +kernel⟩, List.mem_of_getElem? (i := 14) (by decide +kernel), List.mem_of_getElem? (i := 619) (by decide +kernel), List.mem_of_getElem? (i := 620) (by decide +kernel)⟩
theorem lw_p22 : lw_okq (⟨"WireWalkers", "mostAlike", "(II)I"⟩, 16) := ⟨⟨by decide +kernel, by decide +kernel⟩, List.mem_of_getElem? (i := 14) (by decide +kernel), List.mem_of_getElem? (i := 627) (by decide +kernel), List.mem_of_getElem? (i := 628) (by decide +kernel)⟩
theorem lw_p23 : lw_okq (⟨"WireWalkers", "markBehind", "(II)J"⟩, 16) := ⟨⟨by decide +kernel, by decide +kernel⟩, List.mem_of_getElem? (i := 14) (by decide +kernel), List.mem_of_getElem? (i := 631) (by decide +kernel), List.mem_of_getElem? (i := 632) (by decide +kernel)⟩
theorem lw_p24 : lw_okq (⟨"WireWalkers", "weighOdds", "()V"⟩, 16) := ⟨⟨by decide +kernel, by decide +kernel⟩, List.mem_of_getElem? (i := 14) (by decide +kernel), List.mem_of_getElem? (i := 641) (by decide +kernel), List.mem_of_getElem? (i := 642) (by decide +kernel)⟩
theorem lw_p25 : lw_okq (⟨"WireWalkers", "weightOf", "(II)J"⟩, 16) := ⟨⟨by decide +kernel, by decide +kernel⟩, List.mem_of_getElem? (i := 14) (by decide +kernel), List.mem_of_getElem? (i := 649) (by decide +kernel), List.mem_of_getElem? (i := 650) (by decide +kernel)⟩
theorem lw_p26 : lw_okq (⟨"WireWalkers$Sheet", "fitted", "(I)I"⟩, 4) := ⟨⟨by decide +kernel, by decide +kernel⟩, List.mem_of_getElem? (i := 224) (by decide +kernel), List.mem_of_getElem? (i := 688) (by decide +kernel), List.mem_of_getElem? (i := 689) (by decide +kernel)⟩
theorem lw_p27 : lw_okq (⟨"WireWalkers", "mixedWalk", "(JI)J"⟩, 16) := ⟨⟨by decide +kernel, by decide +kernel⟩, List.mem_of_getElem? (i := 14) (by decide +kernel), List.mem_of_getElem? (i := 730) (by decide +kernel), List.mem_of_getElem? (i := 731) (by decide +kernel)⟩
theorem lw_p28 : lw_okq (⟨"WireWalkers", "mixedBehind", "(JII)J"⟩, 16) := ⟨⟨by decide +kernel, by decide +kernel⟩, List.mem_of_getElem? (i := 14) (by decide +kernel), List.mem_of_getElem? (i := 735) (by decide +kernel), List.mem_of_getElem? (i := 736) (by decide +kernel)⟩
theorem lw_p29 : lw_okq (⟨"WireWalkers", "mixedPlans", "(JI)J"⟩, 16) := ⟨⟨by decide +kernel, by decide +kernel⟩, List.mem_of_getElem? (i := 14) (by decide +kernel), List.mem_of_getElem? (i := 742) (by decide +kernel), List.mem_of_getElem? (i := 743) (by decide +kernel)⟩
theorem lw_p30 : lw_okq (⟨"WireWalkers", "mixedBest", "(JI)J"⟩, 16) := ⟨⟨by decide +kernel, by decide +kernel⟩, List.mem_of_getElem? (i := 14) (by decide +kernel), List.mem_of_getElem? (i := 747) (by decide +kernel), List.mem_of_getElem? (i := 748) (by decide +kernel)⟩
theorem lw_p31 : lw_okq (⟨"WireWalkers", "mixedRest", "(J)J"⟩, 16) := ⟨⟨by decide +kernel, by decide +kernel⟩, List.mem_of_getElem? (i := 14) (by decide +kernel), List.mem_of_getElem? (i := 755) (by decide +kernel), List.mem_of_getElem? (i := 756) (by decide +kernel)⟩
def lw_privs_2 : List (MethodName × Nat) := [(⟨"WireWalkers", "chooseFor", "([III)V"⟩, 16), (⟨"WireWalkers", "spareFewest", "()I"⟩, 16), (⟨"WireWalkers", "nobodyFallsWithout", "(I)Z"⟩, 16), (⟨"WireWalkers", "fittingPoles", "(I)I"⟩, 16), (⟨"WireWalkers", "markPlaces", "(I)V"⟩, 16), (⟨"WireWalkers", "fittingSorts", "(I)I"⟩, 16), (⟨"WireWalkers", "mostAlike", "(II)I"⟩, 16), (⟨"WireWalkers", "markBehind", "(II)J"⟩, 16), (⟨"WireWalkers", "weighOdds", "()V"⟩, 16), (⟨"WireWalkers", "weightOf", "(II)J"⟩, 16), (⟨"WireWalkers$Sheet", "fitted", "(I)I"⟩, 4), (⟨"WireWalkers", "mixedWalk", "(JI)J"⟩, 16), (⟨"WireWalkers", "mixedBehind", "(JII)J"⟩, 16), (⟨"WireWalkers", "mixedPlans", "(JI)J"⟩, 16), (⟨"WireWalkers", "mixedBest", "(JI)J"⟩, 16), (⟨"WireWalkers", "mixedRest", "(J)J"⟩, 16)]
theorem lw_r2 : ∀ q ∈ lw_privs_2, lw_okq q := List.forall_mem_cons.mpr ⟨lw_p16, List.forall_mem_cons.mpr ⟨lw_p17, List.forall_mem_cons.mpr ⟨lw_p18, List.forall_mem_cons.mpr ⟨lw_p19, List.forall_mem_cons.mpr ⟨lw_p20, List.forall_mem_cons.mpr ⟨lw_p21, List.forall_mem_cons.mpr ⟨lw_p22, List.forall_mem_cons.mpr ⟨lw_p23, List.forall_mem_cons.mpr ⟨lw_p24, List.forall_mem_cons.mpr ⟨lw_p25, List.forall_mem_cons.mpr ⟨lw_p26, List.forall_mem_cons.mpr ⟨lw_p27, List.forall_mem_cons.mpr ⟨lw_p28, List.forall_mem_cons.mpr ⟨lw_p29, List.forall_mem_cons.mpr ⟨lw_p30, List.forall_mem_cons.mpr ⟨lw_p31, fun _ h => absurd h List.not_mem_nil⟩⟩⟩⟩⟩⟩⟩⟩⟩⟩⟩⟩⟩⟩⟩⟩
theorem lw_p32 : lw_okq (⟨"WireWalkersModel", "finds", "(I)I"⟩, 33) := ⟨⟨by decide +kernel, by decide +kernel⟩, List.mem_of_getElem? (i := 766) (by decide +kernel), List.mem_of_getElem? (i := 884) (by decide +kernel), List.mem_of_getElem? (i := 885) (by decide +kernel)⟩
theorem lw_p33 : lw_okq (⟨"WireWalkersModel", "lacks", "(III)I"⟩, 33) := ⟨⟨by decide +kernel, by decide +kernel⟩, List.mem_of_getElem? (i := 766) (by decide +kernel), List.mem_of_getElem? (i := 896) (by decide +kernel), List.mem_of_getElem? (i := 897) (by decide +kernel)⟩
theorem lw_p34 : lw_okq (⟨"WireWalkersModel", "readsText", "(I)I"⟩, 33) := ⟨⟨by decide +kernel, by decide +kernel⟩, List.mem_of_getElem? (i := 766) (by decide +kernel), List.mem_of_getElem? (i := 932) (by decide +kernel), List.mem_of_getElem? (i := 933) (by decide +kernel)⟩
theorem lw_p35 : lw_okq (⟨"WireWalkersModel", "readsWalkers", "()I"⟩, 33) := ⟨⟨by decide +kernel, by decide +kernel⟩, List.mem_of_getElem? (i := 766) (by decide +kernel), List.mem_of_getElem? (i := 936) (by decide +kernel), List.mem_of_getElem? (i := 937) (by decide +kernel)⟩
theorem lw_p36 : lw_okq (⟨"WireWalkersModel", "readsRoutine", "()I"⟩, 33) := ⟨⟨by decide +kernel, by decide +kernel⟩, List.mem_of_getElem? (i := 766) (by decide +kernel), List.mem_of_getElem? (i := 947) (by decide +kernel), List.mem_of_getElem? (i := 948) (by decide +kernel)⟩
theorem lw_p37 : lw_okq (⟨"WireWalkersModel", "plain", "()V"⟩, 33) := ⟨⟨by decide +kernel, by decide +kernel⟩, List.mem_of_getElem? (i := 766) (by decide +kernel), List.mem_of_getElem? (i := 951) (by decide +kernel), List.mem_of_getElem? (i := 952) (by decide +kernel)⟩
theorem lw_p38 : lw_okq (⟨"WireWalkersModel", "isWalker", "(I)Z"⟩, 33) := ⟨⟨by decide +kernel, by decide +kernel⟩, List.mem_of_getElem? (i := 766) (by decide +kernel), List.mem_of_getElem? (i := 959) (by decide +kernel), List.mem_of_getElem? (i := 960) (by decide +kernel)⟩
theorem lw_p39 : lw_okq (⟨"WireWalkersModel", "find", "()V"⟩, 33) := ⟨⟨by decide +kernel, by decide +kernel⟩, List.mem_of_getElem? (i := 766) (by decide +kernel), List.mem_of_getElem? (i := 999) (by decide +kernel), List.mem_of_getElem? (i := 1000) (by decide +kernel)⟩
theorem lw_p40 : lw_okq (⟨"WireWalkersModel", "lives", "()V"⟩, 33) := ⟨⟨by decide +kernel, by decide +kernel⟩, List.mem_of_getElem? (i := 766) (by decide +kernel), List.mem_of_getElem? (i := 1003) (by decide +kernel), List.mem_of_getElem? (i := 1004) (by decide +kernel)⟩
theorem lw_p41 : lw_okq (⟨"WireWalkersModel", "passes", "(IZ)V"⟩, 33) := ⟨⟨by decide +kernel, by decide +kernel⟩, List.mem_of_getElem? (i := 766) (by decide +kernel), List.mem_of_getElem? (i := 1007) (by decide +kernel), List.mem_of_getElem? (i := 1008) (by decide +kernel)⟩
theorem lw_p42 : lw_okq (⟨"WireWalkersModel", "happens", "(I)V"⟩, 33) := ⟨⟨by decide +kernel, by decide +kernel⟩, List.mem_of_getElem? (i := 766) (by decide +kernel), List.mem_of_getElem? (i := 1011) (by decide +kernel), List.mem_of_getElem? (i := 1012) (by decide +kernel)⟩
theorem lw_p43 : lw_okq (⟨"WireWalkersModel", "leans", "(I)V"⟩, 33) := ⟨⟨by decide +kernel, by decide +kernel⟩, List.mem_of_getElem? (i := 766) (by decide +kernel), List.mem_of_getElem? (i := 1018) (by decide +kernel), List.mem_of_getElem? (i := 1019) (by decide +kernel)⟩
theorem lw_p44 : lw_okq (⟨"WireWalkersModel", "moves", "(II)V"⟩, 33) := ⟨⟨by decide +kernel, by decide +kernel⟩, List.mem_of_getElem? (i := 766) (by decide +kernel), List.mem_of_getElem? (i := 1022) (by decide +kernel), List.mem_of_getElem? (i := 1023) (by decide +kernel)⟩
theorem lw_p45 : lw_okq (⟨"WireWalkersModel", "acting", "(II)V"⟩, 33) := ⟨⟨by decide +kernel, by decide +kernel⟩, List.mem_of_getElem? (i := 766) (by decide +kernel), List.mem_of_getElem? (i := 1026) (by decide +kernel), List.mem_of_getElem? (i := 1027) (by decide +kernel)⟩
theorem lw_p46 : lw_okq (⟨"WireWalkersModel", "goes", "(II)V"⟩, 33) := ⟨⟨by decide +kernel, by decide +kernel⟩, List.mem_of_getElem? (i := 766) (by decide +kernel), List.mem_of_getElem? (i := 1030) (by decide +kernel), List.mem_of_getElem? (i := 1031) (by decide +kernel)⟩
theorem lw_p47 : lw_okq (⟨"WireWalkersModel", "whoAt", "(I)I"⟩, 33) := ⟨⟨by decide +kernel, by decide +kernel⟩, List.mem_of_getElem? (i := 766) (by decide +kernel), List.mem_of_getElem? (i := 1034) (by decide +kernel), List.mem_of_getElem? (i := 1035) (by decide +kernel)⟩
def lw_privs_3 : List (MethodName × Nat) := [(⟨"WireWalkersModel", "finds", "(I)I"⟩, 33), (⟨"WireWalkersModel", "lacks", "(III)I"⟩, 33), (⟨"WireWalkersModel", "readsText", "(I)I"⟩, 33), (⟨"WireWalkersModel", "readsWalkers", "()I"⟩, 33), (⟨"WireWalkersModel", "readsRoutine", "()I"⟩, 33), (⟨"WireWalkersModel", "plain", "()V"⟩, 33), (⟨"WireWalkersModel", "isWalker", "(I)Z"⟩, 33), (⟨"WireWalkersModel", "find", "()V"⟩, 33), (⟨"WireWalkersModel", "lives", "()V"⟩, 33), (⟨"WireWalkersModel", "passes", "(IZ)V"⟩, 33), (⟨"WireWalkersModel", "happens", "(I)V"⟩, 33), (⟨"WireWalkersModel", "leans", "(I)V"⟩, 33), (⟨"WireWalkersModel", "moves", "(II)V"⟩, 33), (⟨"WireWalkersModel", "acting", "(II)V"⟩, 33), (⟨"WireWalkersModel", "goes", "(II)V"⟩, 33), (⟨"WireWalkersModel", "whoAt", "(I)I"⟩, 33)]
theorem lw_r3 : ∀ q ∈ lw_privs_3, lw_okq q := List.forall_mem_cons.mpr ⟨lw_p32, List.forall_mem_cons.mpr ⟨lw_p33, List.forall_mem_cons.mpr ⟨lw_p34, List.forall_mem_cons.mpr ⟨lw_p35, List.forall_mem_cons.mpr ⟨lw_p36, List.forall_mem_cons.mpr ⟨lw_p37, List.forall_mem_cons.mpr ⟨lw_p38, List.forall_mem_cons.mpr ⟨lw_p39, List.forall_mem_cons.mpr ⟨lw_p40, List.forall_mem_cons.mpr ⟨lw_p41, List.forall_mem_cons.mpr ⟨lw_p42, List.forall_mem_cons.mpr ⟨lw_p43, List.forall_mem_cons.mpr ⟨lw_p44, List.forall_mem_cons.mpr ⟨lw_p45, List.forall_mem_cons.mpr ⟨lw_p46, List.forall_mem_cons.mpr ⟨lw_p47, fun _ h => absurd h List.not_mem_nil⟩⟩⟩⟩⟩⟩⟩⟩⟩⟩⟩⟩⟩⟩⟩⟩
theorem lw_p48 : lw_okq (⟨"WireWalkersModel", "seesBy", "(II)I"⟩, 33) := ⟨⟨by decide +kernel, by decide +kernel⟩, List.mem_of_getElem? (i := 766) (by decide +kernel), List.mem_of_getElem? (i := 1052) (by decide +kernel), List.mem_of_getElem? (i := 1053) (by decide +kernel)⟩
theorem lw_p49 : lw_okq (⟨"WireWalkersModel", "endsBy", "(II)I"⟩, 33) := ⟨⟨by decide +kernel, by decide +kernel⟩, List.mem_of_getElem? (i := 766) (by decide +kernel), List.mem_of_getElem? (i := 1064) (by decide +kernel), List.mem_of_getElem? (i := 1065) (by decide +kernel)⟩
theorem lw_p50 : lw_okq (⟨"WireWalkersModel", "sumBy", "(I)I"⟩, 33) := ⟨⟨by decide +kernel, by decide +kernel⟩, List.mem_of_getElem? (i := 766) (by decide +kernel), List.mem_of_getElem? (i := 1072) (by decide +kernel), List.mem_of_getElem? (i := 1073) (by decide +kernel)⟩
theorem lw_p51 : lw_okq (⟨"WireWalkersModel", "many", "(I)I"⟩, 33) := ⟨⟨by decide +kernel, by decide +kernel⟩, List.mem_of_getElem? (i := 766) (by decide +kernel), List.mem_of_getElem? (i := 1076) (by decide +kernel), List.mem_of_getElem? (i := 1077) (by decide +kernel)⟩
theorem lw_p52 : lw_okq (⟨"WireWalkersModel", "whoBy", "(I)I"⟩, 33) := ⟨⟨by decide +kernel, by decide +kernel⟩, List.mem_of_getElem? (i := 766) (by decide +kernel), List.mem_of_getElem? (i := 1084) (by decide +kernel), List.mem_of_getElem? (i := 1085) (by decide +kernel)⟩
theorem lw_p53 : lw_okq (⟨"WireWalkersModel", "firstNow", "()I"⟩, 33) := ⟨⟨by decide +kernel, by decide +kernel⟩, List.mem_of_getElem? (i := 766) (by decide +kernel), List.mem_of_getElem? (i := 1088) (by decide +kernel), List.mem_of_getElem? (i := 1089) (by decide +kernel)⟩
theorem lw_p54 : lw_okq (⟨"WireWalkersModel", "worstNow", "()I"⟩, 33) := ⟨⟨by decide +kernel, by decide +kernel⟩, List.mem_of_getElem? (i := 766) (by decide +kernel), List.mem_of_getElem? (i := 1092) (by decide +kernel), List.mem_of_getElem? (i := 1093) (by decide +kernel)⟩
theorem lw_p55 : lw_okq (⟨"WireWalkersModel", "bareNow", "()I"⟩, 33) := ⟨⟨by decide +kernel, by decide +kernel⟩, List.mem_of_getElem? (i := 766) (by decide +kernel), List.mem_of_getElem? (i := 1100) (by decide +kernel), List.mem_of_getElem? (i := 1101) (by decide +kernel)⟩
theorem lw_p56 : lw_okq (⟨"WireWalkersModel", "walkerBetter", "(III)I"⟩, 33) := ⟨⟨by decide +kernel, by decide +kernel⟩, List.mem_of_getElem? (i := 766) (by decide +kernel), List.mem_of_getElem? (i := 1108) (by decide +kernel), List.mem_of_getElem? (i := 1109) (by decide +kernel)⟩
theorem lw_p57 : lw_okq (⟨"WireWalkersModel", "actOf", "(II)I"⟩, 33) := ⟨⟨by decide +kernel, by decide +kernel⟩, List.mem_of_getElem? (i := 766) (by decide +kernel), List.mem_of_getElem? (i := 1120) (by decide +kernel), List.mem_of_getElem? (i := 1121) (by decide +kernel)⟩
theorem lw_p58 : lw_okq (⟨"WireWalkersModel", "spareBy", "(I)I"⟩, 33) := ⟨⟨by decide +kernel, by decide +kernel⟩, List.mem_of_getElem? (i := 766) (by decide +kernel), List.mem_of_getElem? (i := 1129) (by decide +kernel), List.mem_of_getElem? (i := 1130) (by decide +kernel)⟩
theorem lw_p59 : lw_okq (⟨"WireWalkersModel", "isSpared", "(I)Z"⟩, 33) := ⟨⟨by decide +kernel, by decide +kernel⟩, List.mem_of_getElem? (i := 766) (by decide +kernel), List.mem_of_getElem? (i := 1133) (by decide +kernel), List.mem_of_getElem? (i := 1134) (by decide +kernel)⟩
theorem lw_p60 : lw_okq (⟨"WireWalkersModel", "neverNow", "()I"⟩, 33) := ⟨⟨by decide +kernel, by decide +kernel⟩, List.mem_of_getElem? (i := 766) (by decide +kernel), List.mem_of_getElem? (i := 1149) (by decide +kernel), List.mem_of_getElem? (i := 1150) (by decide +kernel)⟩
theorem lw_p61 : lw_okq (⟨"WireWalkersModel", "isSeen", "()Z"⟩, 33) := ⟨⟨by decide +kernel, by decide +kernel⟩, List.mem_of_getElem? (i := 766) (by decide +kernel), List.mem_of_getElem? (i := 1153) (by decide +kernel), List.mem_of_getElem? (i := 1154) (by decide +kernel)⟩
theorem lw_p62 : lw_okq (⟨"WireWalkersModel", "wasOf", "(II)I"⟩, 33) := ⟨⟨by decide +kernel, by decide +kernel⟩, List.mem_of_getElem? (i := 766) (by decide +kernel), List.mem_of_getElem? (i := 1161) (by decide +kernel), List.mem_of_getElem? (i := 1162) (by decide +kernel)⟩
theorem lw_p63 : lw_okq (⟨"WireWalkersModel", "polesOf", "(I)I"⟩, 33) := ⟨⟨by decide +kernel, by decide +kernel⟩, List.mem_of_getElem? (i := 766) (by decide +kernel), List.mem_of_getElem? (i := 1165) (by decide +kernel), List.mem_of_getElem? (i := 1166) (by decide +kernel)⟩
def lw_privs_4 : List (MethodName × Nat) := [(⟨"WireWalkersModel", "seesBy", "(II)I"⟩, 33), (⟨"WireWalkersModel", "endsBy", "(II)I"⟩, 33), (⟨"WireWalkersModel", "sumBy", "(I)I"⟩, 33), (⟨"WireWalkersModel", "many", "(I)I"⟩, 33), (⟨"WireWalkersModel", "whoBy", "(I)I"⟩, 33), (⟨"WireWalkersModel", "firstNow", "()I"⟩, 33), (⟨"WireWalkersModel", "worstNow", "()I"⟩, 33), (⟨"WireWalkersModel", "bareNow", "()I"⟩, 33), (⟨"WireWalkersModel", "walkerBetter", "(III)I"⟩, 33), (⟨"WireWalkersModel", "actOf", "(II)I"⟩, 33), (⟨"WireWalkersModel", "spareBy", "(I)I"⟩, 33), (⟨"WireWalkersModel", "isSpared", "(I)Z"⟩, 33), (⟨"WireWalkersModel", "neverNow", "()I"⟩, 33), (⟨"WireWalkersModel", "isSeen", "()Z"⟩, 33), (⟨"WireWalkersModel", "wasOf", "(II)I"⟩, 33), (⟨"WireWalkersModel", "polesOf", "(I)I"⟩, 33)]
theorem lw_r4 : ∀ q ∈ lw_privs_4, lw_okq q := List.forall_mem_cons.mpr ⟨lw_p48, List.forall_mem_cons.mpr ⟨lw_p49, List.forall_mem_cons.mpr ⟨lw_p50, List.forall_mem_cons.mpr ⟨lw_p51, List.forall_mem_cons.mpr ⟨lw_p52, List.forall_mem_cons.mpr ⟨lw_p53, List.forall_mem_cons.mpr ⟨lw_p54, List.forall_mem_cons.mpr ⟨lw_p55, List.forall_mem_cons.mpr ⟨lw_p56, List.forall_mem_cons.mpr ⟨lw_p57, List.forall_mem_cons.mpr ⟨lw_p58, List.forall_mem_cons.mpr ⟨lw_p59, List.forall_mem_cons.mpr ⟨lw_p60, List.forall_mem_cons.mpr ⟨lw_p61, List.forall_mem_cons.mpr ⟨lw_p62, List.forall_mem_cons.mpr ⟨lw_p63, fun _ h => absurd h List.not_mem_nil⟩⟩⟩⟩⟩⟩⟩⟩⟩⟩⟩⟩⟩⟩⟩⟩
theorem lw_p64 : lw_okq (⟨"WireWalkersModel", "rowOf", "(I)J"⟩, 33) := ⟨⟨by decide +kernel, by decide +kernel⟩, List.mem_of_getElem? (i := 766) (by decide +kernel), List.mem_of_getElem? (i := 1169) (by decide +kernel), List.mem_of_getElem? (i := 1170) (by decide +kernel)⟩
theorem lw_p65 : lw_okq (⟨"WireWalkersModel", "sortOf", "(I)I"⟩, 33) := ⟨⟨by decide +kernel, by decide +kernel⟩, List.mem_of_getElem? (i := 766) (by decide +kernel), List.mem_of_getElem? (i := 1174) (by decide +kernel), List.mem_of_getElem? (i := 1175) (by decide +kernel)⟩
theorem lw_p66 : lw_okq (⟨"WireWalkersModel", "askOf", "(I)I"⟩, 33) := ⟨⟨by decide +kernel, by decide +kernel⟩, List.mem_of_getElem? (i := 766) (by decide +kernel), List.mem_of_getElem? (i := 1182) (by decide +kernel), List.mem_of_getElem? (i := 1183) (by decide +kernel)⟩
theorem lw_p67 : lw_okq (⟨"WireWalkersModel", "alike", "(II)I"⟩, 33) := ⟨⟨by decide +kernel, by decide +kernel⟩, List.mem_of_getElem? (i := 766) (by decide +kernel), List.mem_of_getElem? (i := 1186) (by decide +kernel), List.mem_of_getElem? (i := 1187) (by decide +kernel)⟩
theorem lw_p68 : lw_okq (⟨"WireWalkersModel", "chanceOf", "(III)J"⟩, 33) := ⟨⟨by decide +kernel, by decide +kernel⟩, List.mem_of_getElem? (i := 766) (by decide +kernel), List.mem_of_getElem? (i := 1195) (by decide +kernel), List.mem_of_getElem? (i := 1196) (by decide +kernel)⟩
theorem lw_p69 : lw_okq (⟨"WireWalkersModel", "showsOf", "(III)I"⟩, 33) := ⟨⟨by decide +kernel, by decide +kernel⟩, List.mem_of_getElem? (i := 766) (by decide +kernel), List.mem_of_getElem? (i := 1211) (by decide +kernel), List.mem_of_getElem? (i := 1212) (by decide +kernel)⟩
theorem lw_p70 : lw_okq (⟨"WireWalkersModel", "lot", "(I)I"⟩, 33) := ⟨⟨by decide +kernel, by decide +kernel⟩, List.mem_of_getElem? (i := 766) (by decide +kernel), List.mem_of_getElem? (i := 1215) (by decide +kernel), List.mem_of_getElem? (i := 1216) (by decide +kernel)⟩
theorem lw_p71 : lw_okq (⟨"WireWalkersModel", "tellsWalker", "(JI)J"⟩, 33) := ⟨⟨by decide +kernel, by decide +kernel⟩, List.mem_of_getElem? (i := 766) (by decide +kernel), List.mem_of_getElem? (i := 1238) (by decide +kernel), List.mem_of_getElem? (i := 1239) (by decide +kernel)⟩
theorem lw_p72 : lw_okq (⟨"WireWalkersModel", "tellsBeat", "(JII)J"⟩, 33) := ⟨⟨by decide +kernel, by decide +kernel⟩, List.mem_of_getElem? (i := 766) (by decide +kernel), List.mem_of_getElem? (i := 1242) (by decide +kernel), List.mem_of_getElem? (i := 1243) (by decide +kernel)⟩
def lw_privs_5 : List (MethodName × Nat) := [(⟨"WireWalkersModel", "rowOf", "(I)J"⟩, 33), (⟨"WireWalkersModel", "sortOf", "(I)I"⟩, 33), (⟨"WireWalkersModel", "askOf", "(I)I"⟩, 33), (⟨"WireWalkersModel", "alike", "(II)I"⟩, 33), (⟨"WireWalkersModel", "chanceOf", "(III)J"⟩, 33), (⟨"WireWalkersModel", "showsOf", "(III)I"⟩, 33), (⟨"WireWalkersModel", "lot", "(I)I"⟩, 33), (⟨"WireWalkersModel", "tellsWalker", "(JI)J"⟩, 33), (⟨"WireWalkersModel", "tellsBeat", "(JII)J"⟩, 33)]
theorem lw_r5 : ∀ q ∈ lw_privs_5, lw_okq q := List.forall_mem_cons.mpr ⟨lw_p64, List.forall_mem_cons.mpr ⟨lw_p65, List.forall_mem_cons.mpr ⟨lw_p66, List.forall_mem_cons.mpr ⟨lw_p67, List.forall_mem_cons.mpr ⟨lw_p68, List.forall_mem_cons.mpr ⟨lw_p69, List.forall_mem_cons.mpr ⟨lw_p70, List.forall_mem_cons.mpr ⟨lw_p71, List.forall_mem_cons.mpr ⟨lw_p72, fun _ h => absurd h List.not_mem_nil⟩⟩⟩⟩⟩⟩⟩⟩⟩
def lw_privs : List (MethodName × Nat) := lw_privs_1 ++ (lw_privs_2 ++ (lw_privs_3 ++ (lw_privs_4 ++ (lw_privs_5))))
def lw_tbl : List Cond := k2_sels lw_privs ++ tables_1
theorem lw_privs_ok : ∀ q ∈ lw_privs, lw_okq q := by
  show ∀ q ∈ lw_privs_1 ++ (lw_privs_2 ++ (lw_privs_3 ++ (lw_privs_4 ++ (lw_privs_5)))), lw_okq q
  exact List.forall_mem_append.mpr ⟨lw_r1, List.forall_mem_append.mpr ⟨lw_r2, List.forall_mem_append.mpr ⟨lw_r3, List.forall_mem_append.mpr ⟨lw_r4, lw_r5⟩⟩⟩⟩
end
section
def RX0 : String := "WireWalkers$Ledger"
def TX0 : u_T := fun k => match k with
  | 0 => ("WireWalkers$Ledger", "states", "[I", true)
  | 1 => ("WireWalkers$Ledger", "places", "[I", true)
  | 2 => ("WireWalkers$Ledger", "leans", "[I", true)
  | _ => ("WireWalkers$Ledger", "sways", "[I", true)
def tyX0 : Nat → FieldType := fun k => match k with
  | 0 => .array .int
  | 1 => .array .int
  | 2 => .array .int
  | _ => .array .int
abbrev wsX00 : List Cond := u_ws RX0 TX0 4
theorem nmX0 : ∀ a, a < 4 → ∀ b, b < 4 → a ≠ b → (TX0 a).2.1 ≠ (TX0 b).2.1 := by decide +kernel
theorem tyX0_ok : ∀ k, k < 4 → parseFieldDescriptor (TX0 k).2.2.1 = some (tyX0 k) := by decide +kernel
abbrev cX0_init : ByteArray := prog_2_method_1_code
def yX0_init : MethodName := ⟨RX0, "<init>", "()V"⟩
abbrev cX0_note : ByteArray := prog_2_method_2_code
def yX0_note : MethodName := ⟨RX0, "note", "(IIIII)V"⟩
abbrev cX0_noteSway : ByteArray := prog_2_method_3_code
def yX0_noteSway : MethodName := ⟨RX0, "noteSway", "(II)V"⟩
abbrev cX0_stateBehind : ByteArray := prog_2_method_4_code
def yX0_stateBehind : MethodName := ⟨RX0, "stateBehind", "(II)I"⟩
abbrev cX0_placeBehind : ByteArray := prog_2_method_5_code
def yX0_placeBehind : MethodName := ⟨RX0, "placeBehind", "(II)I"⟩
abbrev cX0_leanBehind : ByteArray := prog_2_method_6_code
def yX0_leanBehind : MethodName := ⟨RX0, "leanBehind", "(II)I"⟩
abbrev cX0_markOfPlaces : ByteArray := prog_2_method_7_code
def yX0_markOfPlaces : MethodName := ⟨RX0, "markOfPlaces", "(II)J"⟩
abbrev cX0_rowOf : ByteArray := prog_2_method_8_code
def yX0_rowOf : MethodName := ⟨RX0, "rowOf", "(II)I"⟩
def RX1 : String := "WireWalkers$Sheet"
def TX1 : u_T := fun k => match k with
  | 0 => ("WireWalkers$Sheet", "items", "[I", true)
  | 1 => ("WireWalkers$Sheet", "lost", "Z", false)
  | 2 => ("WireWalkers$Sheet", "form", "I", false)
  | _ => ("WireWalkers$Sheet", "size", "I", false)
def tyX1 : Nat → FieldType := fun k => match k with
  | 0 => .array .int
  | 1 => .boolean
  | 2 => .int
  | _ => .int
abbrev wsX10 : List Cond := u_ws RX1 TX1 4
theorem nmX1 : ∀ a, a < 4 → ∀ b, b < 4 → a ≠ b → (TX1 a).2.1 ≠ (TX1 b).2.1 := by decide +kernel
theorem tyX1_ok : ∀ k, k < 4 → parseFieldDescriptor (TX1 k).2.2.1 = some (tyX1 k) := by decide +kernel
abbrev cX1_init : ByteArray := prog_3_method_1_code
def yX1_init : MethodName := ⟨RX1, "<init>", "()V"⟩
abbrev cX1_makeNew : ByteArray := prog_3_method_2_code
def yX1_makeNew : MethodName := ⟨RX1, "makeNew", "(II)V"⟩
abbrev cX1_put : ByteArray := prog_3_method_3_code
def yX1_put : MethodName := ⟨RX1, "put", "(II)V"⟩
abbrev cX1_hasRun : ByteArray := prog_3_method_4_code
def yX1_hasRun : MethodName := ⟨RX1, "hasRun", "(II)Z"⟩
abbrev cX1_fitted : ByteArray := prog_3_method_5_code
def yX1_fitted : MethodName := ⟨RX1, "fitted", "(I)I"⟩
def RX2 : String := "WireWalkers$Show"
def TX2 : u_T := fun k => match k with
  | 0 => ("WireWalkers$Show", "weather", "LWireWalkers$Weather;", true)
  | 1 => ("WireWalkers$Show", "ledger", "LWireWalkers$Ledger;", true)
  | 2 => ("WireWalkers$Show", "state", "[I", true)
  | 3 => ("WireWalkers$Show", "place", "[I", true)
  | 4 => ("WireWalkers$Show", "leaning", "[I", true)
  | 5 => ("WireWalkers$Show", "pole", "[I", true)
  | 6 => ("WireWalkers$Show", "began", "[I", true)
  | 7 => ("WireWalkers$Show", "ended", "[I", true)
  | 8 => ("WireWalkers$Show", "blocked", "[I", true)
  | 9 => ("WireWalkers$Show", "farthest", "[I", true)
  | 10 => ("WireWalkers$Show", "line", "[I", true)
  | 11 => ("WireWalkers$Show", "inLine", "I", false)
  | 12 => ("WireWalkers$Show", "steps", "I", false)
  | 13 => ("WireWalkers$Show", "overs", "I", false)
  | _ => ("WireWalkers$Show", "falls", "I", false)
def tyX2 : Nat → FieldType := fun k => match k with
  | 0 => .object "WireWalkers$Weather"
  | 1 => .object "WireWalkers$Ledger"
  | 2 => .array .int
  | 3 => .array .int
  | 4 => .array .int
  | 5 => .array .int
  | 6 => .array .int
  | 7 => .array .int
  | 8 => .array .int
  | 9 => .array .int
  | 10 => .array .int
  | 11 => .int
  | 12 => .int
  | 13 => .int
  | _ => .int
abbrev wsX20 : List Cond := u_ws RX2 TX2 15
theorem nmX2 : ∀ a, a < 15 → ∀ b, b < 15 → a ≠ b → (TX2 a).2.1 ≠ (TX2 b).2.1 := by decide +kernel
theorem tyX2_ok : ∀ k, k < 15 → parseFieldDescriptor (TX2 k).2.2.1 = some (tyX2 k) := by decide +kernel
abbrev cX2_init : ByteArray := prog_4_method_1_code
def yX2_init : MethodName := ⟨RX2, "<init>", "()V"⟩
abbrev cX2_play : ByteArray := prog_4_method_2_code
def yX2_play : MethodName := ⟨RX2, "play", "(LWireWalkers$Told;[IIZ)V"⟩
abbrev cX2_bitsOfOver : ByteArray := prog_4_method_3_code
def yX2_bitsOfOver : MethodName := ⟨RX2, "bitsOfOver", "(I)I"⟩
abbrev cX2_prepare : ByteArray := prog_4_method_4_code
def yX2_prepare : MethodName := ⟨RX2, "prepare", "(LWireWalkers$Told;I)V"⟩
abbrev cX2_playBeat : ByteArray := prog_4_method_5_code
def yX2_playBeat : MethodName := ⟨RX2, "playBeat", "(LWireWalkers$Told;[III)V"⟩
abbrev cX2_dropPoles : ByteArray := prog_4_method_6_code
def yX2_dropPoles : MethodName := ⟨RX2, "dropPoles", "(I)V"⟩
abbrev cX2_perform : ByteArray := prog_4_method_7_code
def yX2_perform : MethodName := ⟨RX2, "perform", "(LWireWalkers$Told;IIII)V"⟩
abbrev cX2_settle : ByteArray := prog_4_method_8_code
def yX2_settle : MethodName := ⟨RX2, "settle", "(LWireWalkers$Told;II)V"⟩
abbrev cX2_startNext : ByteArray := prog_4_method_9_code
def yX2_startNext : MethodName := ⟨RX2, "startNext", "(LWireWalkers$Told;I)V"⟩
abbrev cX2_noteBeat : ByteArray := prog_4_method_10_code
def yX2_noteBeat : MethodName := ⟨RX2, "noteBeat", "(III)V"⟩
abbrev cX2_signOf : ByteArray := prog_4_method_11_code
def yX2_signOf : MethodName := ⟨RX2, "signOf", "(I)I"⟩
def RX3 : String := "WireWalkers$Sightings"
def TX3 : u_T := fun k => match k with
  | 0 => ("WireWalkers$Sightings", "beats", "[I", true)
  | 1 => ("WireWalkers$Sightings", "walkers", "[I", true)
  | 2 => ("WireWalkers$Sightings", "states", "[I", true)
  | _ => ("WireWalkers$Sightings", "size", "I", false)
def tyX3 : Nat → FieldType := fun k => match k with
  | 0 => .array .int
  | 1 => .array .int
  | 2 => .array .int
  | _ => .int
abbrev wsX30 : List Cond := u_ws RX3 TX3 4
theorem nmX3 : ∀ a, a < 4 → ∀ b, b < 4 → a ≠ b → (TX3 a).2.1 ≠ (TX3 b).2.1 := by decide +kernel
theorem tyX3_ok : ∀ k, k < 4 → parseFieldDescriptor (TX3 k).2.2.1 = some (tyX3 k) := by decide +kernel
abbrev cX3_init : ByteArray := prog_5_method_1_code
def yX3_init : MethodName := ⟨RX3, "<init>", "()V"⟩
abbrev cX3_hasRoom : ByteArray := prog_5_method_2_code
def yX3_hasRoom : MethodName := ⟨RX3, "hasRoom", "()Z"⟩
abbrev cX3_add : ByteArray := prog_5_method_3_code
def yX3_add : MethodName := ⟨RX3, "add", "(III)V"⟩
abbrev cX3_fit : ByteArray := prog_5_method_4_code
def yX3_fit : MethodName := ⟨RX3, "fit", "(LWireWalkers$Ledger;I)Z"⟩
def RX4 : String := "WireWalkers$Text"
def TX4 : u_T := fun k => match k with
  | 0 => ("WireWalkers$Text", "bytes", "[I", true)
  | _ => ("WireWalkers$Text", "size", "I", false)
def tyX4 : Nat → FieldType := fun k => match k with
  | 0 => .array .int
  | _ => .int
abbrev wsX40 : List Cond := u_ws RX4 TX4 2
theorem nmX4 : ∀ a, a < 2 → ∀ b, b < 2 → a ≠ b → (TX4 a).2.1 ≠ (TX4 b).2.1 := by decide +kernel
theorem tyX4_ok : ∀ k, k < 2 → parseFieldDescriptor (TX4 k).2.2.1 = some (tyX4 k) := by decide +kernel
abbrev cX4_init : ByteArray := prog_6_method_1_code
def yX4_init : MethodName := ⟨RX4, "<init>", "(I)V"⟩
abbrev cX4_hasRoom : ByteArray := prog_6_method_2_code
def yX4_hasRoom : MethodName := ⟨RX4, "hasRoom", "()Z"⟩
abbrev cX4_add : ByteArray := prog_6_method_3_code
def yX4_add : MethodName := ⟨RX4, "add", "(I)V"⟩
abbrev cX4_byteAt : ByteArray := prog_6_method_4_code
def yX4_byteAt : MethodName := ⟨RX4, "byteAt", "(I)I"⟩
abbrev cX4_faultOfWalkers : ByteArray := prog_6_method_5_code
def yX4_faultOfWalkers : MethodName := ⟨RX4, "faultOfWalkers", "()I"⟩
abbrev cX4_faultOfRoutine : ByteArray := prog_6_method_6_code
def yX4_faultOfRoutine : MethodName := ⟨RX4, "faultOfRoutine", "()I"⟩
abbrev cX4_fitsWalkers : ByteArray := prog_6_method_7_code
def yX4_fitsWalkers : MethodName := ⟨RX4, "fitsWalkers", "(II)Z"⟩
abbrev cX4_sortOf : ByteArray := prog_6_method_8_code
def yX4_sortOf : MethodName := ⟨RX4, "sortOf", "(I)I"⟩
abbrev cX4_moveOf : ByteArray := prog_6_method_9_code
def yX4_moveOf : MethodName := ⟨RX4, "moveOf", "(I)I"⟩
def RX5 : String := "WireWalkers$Told"
def TX5 : u_T := fun k => match k with
  | 0 => ("WireWalkers$Told", "starts", "[I", true)
  | 1 => ("WireWalkers$Told", "sorts", "[I", true)
  | 2 => ("WireWalkers$Told", "poles", "[I", true)
  | 3 => ("WireWalkers$Told", "moves", "[I", true)
  | 4 => ("WireWalkers$Told", "kinds", "[I", true)
  | 5 => ("WireWalkers$Told", "beats", "[I", true)
  | 6 => ("WireWalkers$Told", "numbers", "[I", true)
  | 7 => ("WireWalkers$Told", "walkers", "I", false)
  | 8 => ("WireWalkers$Told", "events", "I", false)
  | 9 => ("WireWalkers$Told", "length", "I", false)
  | 10 => ("WireWalkers$Told", "slack", "I", false)
  | _ => ("WireWalkers$Told", "limit", "I", false)
def tyX5 : Nat → FieldType := fun k => match k with
  | 0 => .array .int
  | 1 => .array .int
  | 2 => .array .int
  | 3 => .array .int
  | 4 => .array .int
  | 5 => .array .int
  | 6 => .array .int
  | 7 => .int
  | 8 => .int
  | 9 => .int
  | 10 => .int
  | _ => .int
abbrev wsX50 : List Cond := u_ws RX5 TX5 12
theorem nmX5 : ∀ a, a < 12 → ∀ b, b < 12 → a ≠ b → (TX5 a).2.1 ≠ (TX5 b).2.1 := by decide +kernel
theorem tyX5_ok : ∀ k, k < 12 → parseFieldDescriptor (TX5 k).2.2.1 = some (tyX5 k) := by decide +kernel
abbrev cX5_init : ByteArray := prog_7_method_1_code
def yX5_init : MethodName := ⟨RX5, "<init>", "()V"⟩
abbrev cX5_takeWalkers : ByteArray := prog_7_method_2_code
def yX5_takeWalkers : MethodName := ⟨RX5, "takeWalkers", "(LWireWalkers$Text;)V"⟩
abbrev cX5_takeRoutine : ByteArray := prog_7_method_3_code
def yX5_takeRoutine : MethodName := ⟨RX5, "takeRoutine", "(LWireWalkers$Text;)V"⟩
abbrev cX5_mayBeEvent : ByteArray := prog_7_method_4_code
def yX5_mayBeEvent : MethodName := ⟨RX5, "mayBeEvent", "(III)Z"⟩
abbrev cX5_hasRoomForEvent : ByteArray := prog_7_method_5_code
def yX5_hasRoomForEvent : MethodName := ⟨RX5, "hasRoomForEvent", "()Z"⟩
abbrev cX5_addEvent : ByteArray := prog_7_method_6_code
def yX5_addEvent : MethodName := ⟨RX5, "addEvent", "(III)V"⟩
def RX6 : String := "WireWalkers$Weather"
def TX6 : u_T := fun k => match k with
  | 0 => ("WireWalkers$Weather", "gusts", "[I", true)
  | 1 => ("WireWalkers$Weather", "cheers", "[I", true)
  | _ => ("WireWalkers$Weather", "drops", "[I", true)
def tyX6 : Nat → FieldType := fun k => match k with
  | 0 => .array .int
  | 1 => .array .int
  | _ => .array .int
abbrev wsX60 : List Cond := u_ws RX6 TX6 3
theorem nmX6 : ∀ a, a < 3 → ∀ b, b < 3 → a ≠ b → (TX6 a).2.1 ≠ (TX6 b).2.1 := by decide +kernel
theorem tyX6_ok : ∀ k, k < 3 → parseFieldDescriptor (TX6 k).2.2.1 = some (tyX6 k) := by decide +kernel
abbrev cX6_init : ByteArray := prog_8_method_1_code
def yX6_init : MethodName := ⟨RX6, "<init>", "()V"⟩
abbrev cX6_gather : ByteArray := prog_8_method_2_code
def yX6_gather : MethodName := ⟨RX6, "gather", "(LWireWalkers$Told;I)V"⟩
abbrev cX6_add : ByteArray := prog_8_method_3_code
def yX6_add : MethodName := ⟨RX6, "add", "(III)V"⟩
def RX7 : String := "WireWalkers"
def TX7 : u_T := fun k => match k with
  | 0 => ("WireWalkers", "walkerText", "LWireWalkers$Text;", true)
  | 1 => ("WireWalkers", "routineText", "LWireWalkers$Text;", true)
  | 2 => ("WireWalkers", "told", "LWireWalkers$Told;", true)
  | 3 => ("WireWalkers", "sightings", "LWireWalkers$Sightings;", true)
  | 4 => ("WireWalkers", "show", "LWireWalkers$Show;", true)
  | 5 => ("WireWalkers", "trial", "LWireWalkers$Show;", true)
  | 6 => ("WireWalkers", "trialMoves", "[I", true)
  | 7 => ("WireWalkers", "overBits", "[I", true)
  | 8 => ("WireWalkers", "placeMarks", "[J", true)
  | 9 => ("WireWalkers", "spared", "[I", true)
  | 10 => ("WireWalkers", "sheets", "[LWireWalkers$Sheet;", true)
  | 11 => ("WireWalkers", "showFresh", "Z", false)
  | 12 => ("WireWalkers", "oddsFresh", "Z", false)
  | 13 => ("WireWalkers", "bestChoice", "I", false)
  | 14 => ("WireWalkers", "bestOvers", "I", false)
  | _ => ("WireWalkers", "latestFinding", "I", false)
def tyX7 : Nat → FieldType := fun k => match k with
  | 0 => .object "WireWalkers$Text"
  | 1 => .object "WireWalkers$Text"
  | 2 => .object "WireWalkers$Told"
  | 3 => .object "WireWalkers$Sightings"
  | 4 => .object "WireWalkers$Show"
  | 5 => .object "WireWalkers$Show"
  | 6 => .array .int
  | 7 => .array .int
  | 8 => .array .long
  | 9 => .array .int
  | 10 => .array (.object "WireWalkers$Sheet")
  | 11 => .boolean
  | 12 => .boolean
  | 13 => .int
  | 14 => .int
  | _ => .int
abbrev wsX70 : List Cond := u_ws RX7 TX7 16
theorem nmX7 : ∀ a, a < 16 → ∀ b, b < 16 → a ≠ b → (TX7 a).2.1 ≠ (TX7 b).2.1 := by decide +kernel
theorem tyX7_ok : ∀ k, k < 16 → parseFieldDescriptor (TX7 k).2.2.1 = some (tyX7 k) := by decide +kernel
abbrev cX7_init : ByteArray := prog_1_method_1_code
def yX7_init : MethodName := ⟨RX7, "<init>", "()V"⟩
abbrev cX7_type : ByteArray := prog_1_method_2_code
def yX7_type : MethodName := ⟨RX7, "type", "(II)I"⟩
abbrev cX7_wipe : ByteArray := prog_1_method_3_code
def yX7_wipe : MethodName := ⟨RX7, "wipe", "(I)I"⟩
abbrev cX7_undo : ByteArray := prog_1_method_4_code
def yX7_undo : MethodName := ⟨RX7, "undo", "(I)I"⟩
abbrev cX7_fault : ByteArray := prog_1_method_5_code
def yX7_fault : MethodName := ⟨RX7, "fault", "(I)I"⟩
abbrev cX7_walker : ByteArray := prog_1_method_6_code
def yX7_walker : MethodName := ⟨RX7, "walker", "(II)I"⟩
abbrev cX7_routine : ByteArray := prog_1_method_7_code
def yX7_routine : MethodName := ⟨RX7, "routine", "(I)I"⟩
abbrev cX7_wire : ByteArray := prog_1_method_8_code
def yX7_wire : MethodName := ⟨RX7, "wire", "(II)I"⟩
abbrev cX7_event : ByteArray := prog_1_method_9_code
def yX7_event : MethodName := ⟨RX7, "event", "(III)I"⟩
abbrev cX7_back : ByteArray := prog_1_method_10_code
def yX7_back : MethodName := ⟨RX7, "back", "()I"⟩
abbrev cX7_read : ByteArray := prog_1_method_11_code
def yX7_read : MethodName := ⟨RX7, "read", "(I)I"⟩
abbrev cX7_at : ByteArray := prog_1_method_12_code
def yX7_at : MethodName := ⟨RX7, "at", "(III)I"⟩
abbrev cX7_lean : ByteArray := prog_1_method_13_code
def yX7_lean : MethodName := ⟨RX7, "lean", "(II)I"⟩
abbrev cX7_sees : ByteArray := prog_1_method_14_code
def yX7_sees : MethodName := ⟨RX7, "sees", "(II)I"⟩
abbrev cX7_sway : ByteArray := prog_1_method_15_code
def yX7_sway : MethodName := ⟨RX7, "sway", "(I)I"⟩
abbrev cX7_ends : ByteArray := prog_1_method_16_code
def yX7_ends : MethodName := ⟨RX7, "ends", "(II)I"⟩
abbrev cX7_sum : ByteArray := prog_1_method_17_code
def yX7_sum : MethodName := ⟨RX7, "sum", "(I)I"⟩
abbrev cX7_who : ByteArray := prog_1_method_18_code
def yX7_who : MethodName := ⟨RX7, "who", "(I)I"⟩
abbrev cX7_bare : ByteArray := prog_1_method_19_code
def yX7_bare : MethodName := ⟨RX7, "bare", "()I"⟩
abbrev cX7_firstOver : ByteArray := prog_1_method_20_code
def yX7_firstOver : MethodName := ⟨RX7, "firstOver", "()I"⟩
abbrev cX7_farthestLeaning : ByteArray := prog_1_method_21_code
def yX7_farthestLeaning : MethodName := ⟨RX7, "farthestLeaning", "()I"⟩
abbrev cX7_start : ByteArray := prog_1_method_22_code
def yX7_start : MethodName := ⟨RX7, "start", "(II)I"⟩
abbrev cX7_hold : ByteArray := prog_1_method_23_code
def yX7_hold : MethodName := ⟨RX7, "hold", "(II)I"⟩
abbrev cX7_act : ByteArray := prog_1_method_24_code
def yX7_act : MethodName := ⟨RX7, "act", "(II)I"⟩
abbrev cX7_spare : ByteArray := prog_1_method_25_code
def yX7_spare : MethodName := ⟨RX7, "spare", "(I)I"⟩
abbrev cX7_chooseFor : ByteArray := prog_1_method_26_code
def yX7_chooseFor : MethodName := ⟨RX7, "chooseFor", "([III)V"⟩
abbrev cX7_spareFewest : ByteArray := prog_1_method_27_code
def yX7_spareFewest : MethodName := ⟨RX7, "spareFewest", "()I"⟩
abbrev cX7_nobodyFallsWithout : ByteArray := prog_1_method_28_code
def yX7_nobodyFallsWithout : MethodName := ⟨RX7, "nobodyFallsWithout", "(I)Z"⟩
abbrev cX7_seen : ByteArray := prog_1_method_29_code
def yX7_seen : MethodName := ⟨RX7, "seen", "(III)I"⟩
abbrev cX7_forget : ByteArray := prog_1_method_30_code
def yX7_forget : MethodName := ⟨RX7, "forget", "()I"⟩
abbrev cX7_never : ByteArray := prog_1_method_31_code
def yX7_never : MethodName := ⟨RX7, "never", "()I"⟩
abbrev cX7_was : ByteArray := prog_1_method_32_code
def yX7_was : MethodName := ⟨RX7, "was", "(II)I"⟩
abbrev cX7_ask : ByteArray := prog_1_method_33_code
def yX7_ask : MethodName := ⟨RX7, "ask", "(I)I"⟩
abbrev cX7_chance : ByteArray := prog_1_method_34_code
def yX7_chance : MethodName := ⟨RX7, "chance", "(III)J"⟩
abbrev cX7_shows : ByteArray := prog_1_method_35_code
def yX7_shows : MethodName := ⟨RX7, "shows", "(III)I"⟩
abbrev cX7_fittingPoles : ByteArray := prog_1_method_36_code
def yX7_fittingPoles : MethodName := ⟨RX7, "fittingPoles", "(I)I"⟩
abbrev cX7_fittingSorts : ByteArray := prog_1_method_37_code
def yX7_fittingSorts : MethodName := ⟨RX7, "fittingSorts", "(I)I"⟩
abbrev cX7_markPlaces : ByteArray := prog_1_method_38_code
def yX7_markPlaces : MethodName := ⟨RX7, "markPlaces", "(I)V"⟩
abbrev cX7_mostAlike : ByteArray := prog_1_method_39_code
def yX7_mostAlike : MethodName := ⟨RX7, "mostAlike", "(II)I"⟩
abbrev cX7_markBehind : ByteArray := prog_1_method_40_code
def yX7_markBehind : MethodName := ⟨RX7, "markBehind", "(II)J"⟩
abbrev cX7_weighOdds : ByteArray := prog_1_method_41_code
def yX7_weighOdds : MethodName := ⟨RX7, "weighOdds", "()V"⟩
abbrev cX7_weightOf : ByteArray := prog_1_method_42_code
def yX7_weightOf : MethodName := ⟨RX7, "weightOf", "(II)J"⟩
abbrev cX7_sheet : ByteArray := prog_1_method_43_code
def yX7_sheet : MethodName := ⟨RX7, "sheet", "(III)I"⟩
abbrev cX7_lose : ByteArray := prog_1_method_44_code
def yX7_lose : MethodName := ⟨RX7, "lose", "(I)I"⟩
abbrev cX7_lay : ByteArray := prog_1_method_45_code
def yX7_lay : MethodName := ⟨RX7, "lay", "(IIII)I"⟩
abbrev cX7_get : ByteArray := prog_1_method_46_code
def yX7_get : MethodName := ⟨RX7, "get", "(III)I"⟩
abbrev cX7_copy : ByteArray := prog_1_method_47_code
def yX7_copy : MethodName := ⟨RX7, "copy", "(IIIII)I"⟩
abbrev cX7_write : ByteArray := prog_1_method_48_code
def yX7_write : MethodName := ⟨RX7, "write", "(II)I"⟩
abbrev cX7_count : ByteArray := prog_1_method_49_code
def yX7_count : MethodName := ⟨RX7, "count", "(I)I"⟩
abbrev cX7_digest : ByteArray := prog_1_method_50_code
def yX7_digest : MethodName := ⟨RX7, "digest", "()J"⟩
abbrev cX7_mixedWalk : ByteArray := prog_1_method_51_code
def yX7_mixedWalk : MethodName := ⟨RX7, "mixedWalk", "(JI)J"⟩
abbrev cX7_mixedBehind : ByteArray := prog_1_method_52_code
def yX7_mixedBehind : MethodName := ⟨RX7, "mixedBehind", "(JII)J"⟩
abbrev cX7_mixedPlans : ByteArray := prog_1_method_53_code
def yX7_mixedPlans : MethodName := ⟨RX7, "mixedPlans", "(JI)J"⟩
abbrev cX7_mixedBest : ByteArray := prog_1_method_54_code
def yX7_mixedBest : MethodName := ⟨RX7, "mixedBest", "(JI)J"⟩
abbrev cX7_mixedRest : ByteArray := prog_1_method_55_code
def yX7_mixedRest : MethodName := ⟨RX7, "mixedRest", "(J)J"⟩
abbrev cX7_mixed : ByteArray := prog_1_method_56_code
def yX7_mixed : MethodName := ⟨RX7, "mixed", "(JJ)J"⟩
abbrev cX7_within : ByteArray := prog_1_method_57_code
def yX7_within : MethodName := ⟨RX7, "within", "(III)Z"⟩
abbrev cX7_isBeat : ByteArray := prog_1_method_58_code
def yX7_isBeat : MethodName := ⟨RX7, "isBeat", "(I)Z"⟩
abbrev cX7_isSheet : ByteArray := prog_1_method_59_code
def yX7_isSheet : MethodName := ⟨RX7, "isSheet", "(I)Z"⟩
abbrev cX7_isForm : ByteArray := prog_1_method_60_code
def yX7_isForm : MethodName := ⟨RX7, "isForm", "(I)Z"⟩
abbrev cX7_isWalker : ByteArray := prog_1_method_61_code
def yX7_isWalker : MethodName := ⟨RX7, "isWalker", "(I)Z"⟩
abbrev cX7_textOf : ByteArray := prog_1_method_62_code
def yX7_textOf : MethodName := ⟨RX7, "textOf", "(I)LWireWalkers$Text;"⟩
abbrev cX7_takeTexts : ByteArray := prog_1_method_63_code
def yX7_takeTexts : MethodName := ⟨RX7, "takeTexts", "()V"⟩
abbrev cX7_forgetShows : ByteArray := prog_1_method_64_code
def yX7_forgetShows : MethodName := ⟨RX7, "forgetShows", "()V"⟩
abbrev cX7_shown : ByteArray := prog_1_method_65_code
def yX7_shown : MethodName := ⟨RX7, "shown", "()LWireWalkers$Show;"⟩
abbrev cX7_found : ByteArray := prog_1_method_66_code
def yX7_found : MethodName := ⟨RX7, "found", "(I)I"⟩
abbrev cX7_findingAt : ByteArray := prog_1_method_67_code
def yX7_findingAt : MethodName := ⟨RX7, "findingAt", "(LWireWalkers$Sheet;II)I"⟩
def RX8 : String := "WireWalkersModel"
def TX8 : u_T := fun k => match k with
  | 0 => ("WireWalkersModel", "forms", "[I", true)
  | 1 => ("WireWalkersModel", "sizes", "[I", true)
  | 2 => ("WireWalkersModel", "items", "[I", true)
  | 3 => ("WireWalkersModel", "moved", "[I", true)
  | 4 => ("WireWalkersModel", "latest", "I", false)
  | 5 => ("WireWalkersModel", "bytes", "[I", true)
  | 6 => ("WireWalkersModel", "typed", "[I", true)
  | 7 => ("WireWalkersModel", "walkers", "I", false)
  | 8 => ("WireWalkersModel", "walker", "[I", true)
  | 9 => ("WireWalkersModel", "told", "I", false)
  | 10 => ("WireWalkersModel", "acts", "[I", true)
  | 11 => ("WireWalkersModel", "wires", "[I", true)
  | 12 => ("WireWalkersModel", "events", "I", false)
  | 13 => ("WireWalkersModel", "event", "[I", true)
  | 14 => ("WireWalkersModel", "gone", "I", false)
  | 15 => ("WireWalkersModel", "state", "[I", true)
  | 16 => ("WireWalkersModel", "place", "[I", true)
  | 17 => ("WireWalkersModel", "lean", "[I", true)
  | 18 => ("WireWalkersModel", "pole", "[I", true)
  | 19 => ("WireWalkersModel", "own", "[I", true)
  | 20 => ("WireWalkersModel", "endIn", "[I", true)
  | 21 => ("WireWalkersModel", "halts", "[I", true)
  | 22 => ("WireWalkersModel", "farthest", "[I", true)
  | 23 => ("WireWalkersModel", "stateBy", "[I", true)
  | 24 => ("WireWalkersModel", "placeBy", "[I", true)
  | 25 => ("WireWalkersModel", "leanBy", "[I", true)
  | 26 => ("WireWalkersModel", "swayBy", "[I", true)
  | 27 => ("WireWalkersModel", "steps", "I", false)
  | 28 => ("WireWalkersModel", "cheers", "Z", false)
  | 29 => ("WireWalkersModel", "sights", "I", false)
  | 30 => ("WireWalkersModel", "sight", "[I", true)
  | 31 => ("WireWalkersModel", "rows", "[J", true)
  | _ => ("WireWalkersModel", "drawn", "I", false)
def tyX8 : Nat → FieldType := fun k => match k with
  | 0 => .array .int
  | 1 => .array .int
  | 2 => .array .int
  | 3 => .array .int
  | 4 => .int
  | 5 => .array .int
  | 6 => .array .int
  | 7 => .int
  | 8 => .array .int
  | 9 => .int
  | 10 => .array .int
  | 11 => .array .int
  | 12 => .int
  | 13 => .array .int
  | 14 => .int
  | 15 => .array .int
  | 16 => .array .int
  | 17 => .array .int
  | 18 => .array .int
  | 19 => .array .int
  | 20 => .array .int
  | 21 => .array .int
  | 22 => .array .int
  | 23 => .array .int
  | 24 => .array .int
  | 25 => .array .int
  | 26 => .array .int
  | 27 => .int
  | 28 => .boolean
  | 29 => .int
  | 30 => .array .int
  | 31 => .array .long
  | _ => .int
abbrev wsX80 : List Cond := u_ws RX8 TX8 33
theorem nmX8 : ∀ a, a < 33 → ∀ b, b < 33 → a ≠ b → (TX8 a).2.1 ≠ (TX8 b).2.1 := by decide +kernel
theorem tyX8_ok : ∀ k, k < 33 → parseFieldDescriptor (TX8 k).2.2.1 = some (tyX8 k) := by decide +kernel
abbrev cX8_init : ByteArray := prog_10_method_1_code
def yX8_init : MethodName := ⟨RX8, "<init>", "()V"⟩
abbrev cX8_in : ByteArray := prog_10_method_3_code
def yX8_in : MethodName := ⟨RX8, "in", "(JJJ)Z"⟩
abbrev cX8_no : ByteArray := prog_10_method_4_code
def yX8_no : MethodName := ⟨RX8, "no", "(I)J"⟩
abbrev cX8_isTwo : ByteArray := prog_10_method_5_code
def yX8_isTwo : MethodName := ⟨RX8, "isTwo", "(I)Z"⟩
abbrev cX8_isIn : ByteArray := prog_10_method_6_code
def yX8_isIn : MethodName := ⟨RX8, "isIn", "(II)Z"⟩
abbrev cX8_lesser : ByteArray := prog_10_method_7_code
def yX8_lesser : MethodName := ⟨RX8, "lesser", "(II)I"⟩
abbrev cX8_greater : ByteArray := prog_10_method_8_code
def yX8_greater : MethodName := ⟨RX8, "greater", "(II)I"⟩
abbrev cX8_part : ByteArray := prog_10_method_9_code
def yX8_part : MethodName := ⟨RX8, "part", "(JJI)J"⟩
abbrev cX8_finds : ByteArray := prog_10_method_10_code
def yX8_finds : MethodName := ⟨RX8, "finds", "(I)I"⟩
abbrev cX8_isSheet : ByteArray := prog_10_method_11_code
def yX8_isSheet : MethodName := ⟨RX8, "isSheet", "(I)Z"⟩
abbrev cX8_sheet : ByteArray := prog_10_method_12_code
def yX8_sheet : MethodName := ⟨RX8, "sheet", "(III)I"⟩
abbrev cX8_lose : ByteArray := prog_10_method_13_code
def yX8_lose : MethodName := ⟨RX8, "lose", "(I)I"⟩
abbrev cX8_lacks : ByteArray := prog_10_method_14_code
def yX8_lacks : MethodName := ⟨RX8, "lacks", "(III)I"⟩
abbrev cX8_cut : ByteArray := prog_10_method_15_code
def yX8_cut : MethodName := ⟨RX8, "cut", "(II)I"⟩
abbrev cX8_lay : ByteArray := prog_10_method_16_code
def yX8_lay : MethodName := ⟨RX8, "lay", "(IIII)I"⟩
abbrev cX8_get : ByteArray := prog_10_method_17_code
def yX8_get : MethodName := ⟨RX8, "get", "(III)I"⟩
abbrev cX8_copy : ByteArray := prog_10_method_18_code
def yX8_copy : MethodName := ⟨RX8, "copy", "(IIIII)I"⟩
abbrev cX8_type : ByteArray := prog_10_method_19_code
def yX8_type : MethodName := ⟨RX8, "type", "(II)I"⟩
abbrev cX8_wipe : ByteArray := prog_10_method_20_code
def yX8_wipe : MethodName := ⟨RX8, "wipe", "(I)I"⟩
abbrev cX8_undo : ByteArray := prog_10_method_21_code
def yX8_undo : MethodName := ⟨RX8, "undo", "(I)I"⟩
abbrev cX8_walkerOf : ByteArray := prog_10_method_22_code
def yX8_walkerOf : MethodName := ⟨RX8, "walkerOf", "(II)I"⟩
abbrev cX8_readsWalkers : ByteArray := prog_10_method_23_code
def yX8_readsWalkers : MethodName := ⟨RX8, "readsWalkers", "()I"⟩
abbrev cX8_plain : ByteArray := prog_10_method_24_code
def yX8_plain : MethodName := ⟨RX8, "plain", "()V"⟩
abbrev cX8_readsRoutine : ByteArray := prog_10_method_25_code
def yX8_readsRoutine : MethodName := ⟨RX8, "readsRoutine", "()I"⟩
abbrev cX8_readsText : ByteArray := prog_10_method_26_code
def yX8_readsText : MethodName := ⟨RX8, "readsText", "(I)I"⟩
abbrev cX8_fault : ByteArray := prog_10_method_27_code
def yX8_fault : MethodName := ⟨RX8, "fault", "(I)I"⟩
abbrev cX8_isBeat : ByteArray := prog_10_method_28_code
def yX8_isBeat : MethodName := ⟨RX8, "isBeat", "(I)Z"⟩
abbrev cX8_isWalker : ByteArray := prog_10_method_29_code
def yX8_isWalker : MethodName := ⟨RX8, "isWalker", "(I)Z"⟩
abbrev cX8_walker : ByteArray := prog_10_method_30_code
def yX8_walker : MethodName := ⟨RX8, "walker", "(II)I"⟩
abbrev cX8_routine : ByteArray := prog_10_method_31_code
def yX8_routine : MethodName := ⟨RX8, "routine", "(I)I"⟩
abbrev cX8_isSet : ByteArray := prog_10_method_32_code
def yX8_isSet : MethodName := ⟨RX8, "isSet", "(II)Z"⟩
abbrev cX8_wire : ByteArray := prog_10_method_33_code
def yX8_wire : MethodName := ⟨RX8, "wire", "(II)I"⟩
abbrev cX8_event : ByteArray := prog_10_method_34_code
def yX8_event : MethodName := ⟨RX8, "event", "(III)I"⟩
abbrev cX8_back : ByteArray := prog_10_method_35_code
def yX8_back : MethodName := ⟨RX8, "back", "()I"⟩
abbrev cX8_read : ByteArray := prog_10_method_36_code
def yX8_read : MethodName := ⟨RX8, "read", "(I)I"⟩
abbrev cX8_leans : ByteArray := prog_10_method_37_code
def yX8_leans : MethodName := ⟨RX8, "leans", "(I)V"⟩
abbrev cX8_happens : ByteArray := prog_10_method_38_code
def yX8_happens : MethodName := ⟨RX8, "happens", "(I)V"⟩
abbrev cX8_whoAt : ByteArray := prog_10_method_39_code
def yX8_whoAt : MethodName := ⟨RX8, "whoAt", "(I)I"⟩
abbrev cX8_goes : ByteArray := prog_10_method_40_code
def yX8_goes : MethodName := ⟨RX8, "goes", "(II)V"⟩
abbrev cX8_acting : ByteArray := prog_10_method_41_code
def yX8_acting : MethodName := ⟨RX8, "acting", "(II)V"⟩
abbrev cX8_size : ByteArray := prog_10_method_42_code
def yX8_size : MethodName := ⟨RX8, "size", "(I)I"⟩
abbrev cX8_moves : ByteArray := prog_10_method_43_code
def yX8_moves : MethodName := ⟨RX8, "moves", "(II)V"⟩
abbrev cX8_passes : ByteArray := prog_10_method_44_code
def yX8_passes : MethodName := ⟨RX8, "passes", "(IZ)V"⟩
abbrev cX8_lives : ByteArray := prog_10_method_45_code
def yX8_lives : MethodName := ⟨RX8, "lives", "()V"⟩
abbrev cX8_find : ByteArray := prog_10_method_46_code
def yX8_find : MethodName := ⟨RX8, "find", "()V"⟩
abbrev cX8_at : ByteArray := prog_10_method_47_code
def yX8_at : MethodName := ⟨RX8, "at", "(III)I"⟩
abbrev cX8_lean : ByteArray := prog_10_method_48_code
def yX8_lean : MethodName := ⟨RX8, "lean", "(II)I"⟩
abbrev cX8_seesBy : ByteArray := prog_10_method_49_code
def yX8_seesBy : MethodName := ⟨RX8, "seesBy", "(II)I"⟩
abbrev cX8_sees : ByteArray := prog_10_method_50_code
def yX8_sees : MethodName := ⟨RX8, "sees", "(II)I"⟩
abbrev cX8_sway : ByteArray := prog_10_method_51_code
def yX8_sway : MethodName := ⟨RX8, "sway", "(I)I"⟩
abbrev cX8_endsBy : ByteArray := prog_10_method_52_code
def yX8_endsBy : MethodName := ⟨RX8, "endsBy", "(II)I"⟩
abbrev cX8_ends : ByteArray := prog_10_method_53_code
def yX8_ends : MethodName := ⟨RX8, "ends", "(II)I"⟩
abbrev cX8_many : ByteArray := prog_10_method_54_code
def yX8_many : MethodName := ⟨RX8, "many", "(I)I"⟩
abbrev cX8_sumBy : ByteArray := prog_10_method_55_code
def yX8_sumBy : MethodName := ⟨RX8, "sumBy", "(I)I"⟩
abbrev cX8_sum : ByteArray := prog_10_method_56_code
def yX8_sum : MethodName := ⟨RX8, "sum", "(I)I"⟩
abbrev cX8_firstNow : ByteArray := prog_10_method_57_code
def yX8_firstNow : MethodName := ⟨RX8, "firstNow", "()I"⟩
abbrev cX8_worstNow : ByteArray := prog_10_method_58_code
def yX8_worstNow : MethodName := ⟨RX8, "worstNow", "()I"⟩
abbrev cX8_whoBy : ByteArray := prog_10_method_59_code
def yX8_whoBy : MethodName := ⟨RX8, "whoBy", "(I)I"⟩
abbrev cX8_who : ByteArray := prog_10_method_60_code
def yX8_who : MethodName := ⟨RX8, "who", "(I)I"⟩
abbrev cX8_bareNow : ByteArray := prog_10_method_61_code
def yX8_bareNow : MethodName := ⟨RX8, "bareNow", "()I"⟩
abbrev cX8_bare : ByteArray := prog_10_method_62_code
def yX8_bare : MethodName := ⟨RX8, "bare", "()I"⟩
abbrev cX8_walkerBetter : ByteArray := prog_10_method_63_code
def yX8_walkerBetter : MethodName := ⟨RX8, "walkerBetter", "(III)I"⟩
abbrev cX8_start : ByteArray := prog_10_method_64_code
def yX8_start : MethodName := ⟨RX8, "start", "(II)I"⟩
abbrev cX8_hold : ByteArray := prog_10_method_65_code
def yX8_hold : MethodName := ⟨RX8, "hold", "(II)I"⟩
abbrev cX8_actOf : ByteArray := prog_10_method_66_code
def yX8_actOf : MethodName := ⟨RX8, "actOf", "(II)I"⟩
abbrev cX8_act : ByteArray := prog_10_method_67_code
def yX8_act : MethodName := ⟨RX8, "act", "(II)I"⟩
abbrev cX8_isSpared : ByteArray := prog_10_method_68_code
def yX8_isSpared : MethodName := ⟨RX8, "isSpared", "(I)Z"⟩
abbrev cX8_spareBy : ByteArray := prog_10_method_69_code
def yX8_spareBy : MethodName := ⟨RX8, "spareBy", "(I)I"⟩
abbrev cX8_spare : ByteArray := prog_10_method_70_code
def yX8_spare : MethodName := ⟨RX8, "spare", "(I)I"⟩
abbrev cX8_seen : ByteArray := prog_10_method_71_code
def yX8_seen : MethodName := ⟨RX8, "seen", "(III)I"⟩
abbrev cX8_forget : ByteArray := prog_10_method_72_code
def yX8_forget : MethodName := ⟨RX8, "forget", "()I"⟩
abbrev cX8_isSeen : ByteArray := prog_10_method_73_code
def yX8_isSeen : MethodName := ⟨RX8, "isSeen", "()Z"⟩
abbrev cX8_neverNow : ByteArray := prog_10_method_74_code
def yX8_neverNow : MethodName := ⟨RX8, "neverNow", "()I"⟩
abbrev cX8_never : ByteArray := prog_10_method_75_code
def yX8_never : MethodName := ⟨RX8, "never", "()I"⟩
abbrev cX8_rowOf : ByteArray := prog_10_method_76_code
def yX8_rowOf : MethodName := ⟨RX8, "rowOf", "(I)J"⟩
abbrev cX8_polesOf : ByteArray := prog_10_method_77_code
def yX8_polesOf : MethodName := ⟨RX8, "polesOf", "(I)I"⟩
abbrev cX8_sortOf : ByteArray := prog_10_method_78_code
def yX8_sortOf : MethodName := ⟨RX8, "sortOf", "(I)I"⟩
abbrev cX8_wasOf : ByteArray := prog_10_method_79_code
def yX8_wasOf : MethodName := ⟨RX8, "wasOf", "(II)I"⟩
abbrev cX8_was : ByteArray := prog_10_method_80_code
def yX8_was : MethodName := ⟨RX8, "was", "(II)I"⟩
abbrev cX8_alike : ByteArray := prog_10_method_81_code
def yX8_alike : MethodName := ⟨RX8, "alike", "(II)I"⟩
abbrev cX8_askOf : ByteArray := prog_10_method_82_code
def yX8_askOf : MethodName := ⟨RX8, "askOf", "(I)I"⟩
abbrev cX8_ask : ByteArray := prog_10_method_83_code
def yX8_ask : MethodName := ⟨RX8, "ask", "(I)I"⟩
abbrev cX8_chanceOf : ByteArray := prog_10_method_84_code
def yX8_chanceOf : MethodName := ⟨RX8, "chanceOf", "(III)J"⟩
abbrev cX8_chance : ByteArray := prog_10_method_85_code
def yX8_chance : MethodName := ⟨RX8, "chance", "(III)J"⟩
abbrev cX8_lot : ByteArray := prog_10_method_86_code
def yX8_lot : MethodName := ⟨RX8, "lot", "(I)I"⟩
abbrev cX8_showsOf : ByteArray := prog_10_method_87_code
def yX8_showsOf : MethodName := ⟨RX8, "showsOf", "(III)I"⟩
abbrev cX8_shows : ByteArray := prog_10_method_88_code
def yX8_shows : MethodName := ⟨RX8, "shows", "(III)I"⟩
abbrev cX8_write : ByteArray := prog_10_method_89_code
def yX8_write : MethodName := ⟨RX8, "write", "(II)I"⟩
abbrev cX8_count : ByteArray := prog_10_method_90_code
def yX8_count : MethodName := ⟨RX8, "count", "(I)I"⟩
abbrev cX8_tellsBeat : ByteArray := prog_10_method_91_code
def yX8_tellsBeat : MethodName := ⟨RX8, "tellsBeat", "(JII)J"⟩
abbrev cX8_tellsWalker : ByteArray := prog_10_method_92_code
def yX8_tellsWalker : MethodName := ⟨RX8, "tellsWalker", "(JI)J"⟩
abbrev cX8_digest : ByteArray := prog_10_method_93_code
def yX8_digest : MethodName := ⟨RX8, "digest", "()J"⟩
def RJ9 : String := "java/lang/Math"
abbrev cJ9_abs_0f7a4 : ByteArray := prog_11_method_59_code
def yJ9_abs_0f7a4 : MethodName := ⟨RJ9, "abs", "(I)I"⟩
abbrev cJ9_max_7cf53 : ByteArray := prog_11_method_65_code
def yJ9_max_7cf53 : MethodName := ⟨RJ9, "max", "(II)I"⟩
abbrev cJ9_min_7cf53 : ByteArray := prog_11_method_69_code
def yJ9_min_7cf53 : MethodName := ⟨RJ9, "min", "(II)I"⟩
def RJ10 : String := "java/lang/System"
def RJ7 : String := "java/util/Arrays"
abbrev cJ7_fill_53178 : ByteArray := prog_13_method_103_code
def yJ7_fill_53178 : MethodName := ⟨RJ7, "fill", "([II)V"⟩
def RL : String := "WireWalkersLaw"
abbrev cL_law : ByteArray := code
def yL_law : MethodName := ⟨RL, "law", "([I)Z"⟩
abbrev vwCl : List vw_C := [(RX0, TX0, 4), (RX1, TX1, 4), (RX2, TX2, 15), (RX3, TX3, 4), (RX4, TX4, 2), (RX5, TX5, 12), (RX6, TX6, 3), (RX7, TX7, 16), (RX8, TX8, 33)]
theorem wi_X0 : ∀ w ∈ wsX00, w ∈ lw_tbl := by
  intro w hw
  have h : wsX00 = [232, 234, 236, 238].filterMap (fun i => lw_tbl[i]?) := by decide +kernel
  rw [h] at hw
  obtain ⟨i, -, hi⟩ := List.mem_filterMap.mp hw
  exact List.mem_of_getElem? hi
theorem wi_X1 : ∀ w ∈ wsX10, w ∈ lw_tbl := by
  intro w hw
  have h : wsX10 = [310, 312, 314, 316].filterMap (fun i => lw_tbl[i]?) := by decide +kernel
  rw [h] at hw
  obtain ⟨i, -, hi⟩ := List.mem_filterMap.mp hw
  exact List.mem_of_getElem? hi
theorem wi_X2 : ∀ w ∈ wsX20, w ∈ lw_tbl := by
  intro w hw
  have h : wsX20 = [264, 266, 268, 270, 272, 274, 276, 278, 280, 282, 284, 286, 288, 290, 292].filterMap (fun i => lw_tbl[i]?) := by decide +kernel
  rw [h] at hw
  obtain ⟨i, -, hi⟩ := List.mem_filterMap.mp hw
  exact List.mem_of_getElem? hi
theorem wi_X3 : ∀ w ∈ wsX30, w ∈ lw_tbl := by
  intro w hw
  have h : wsX30 = [187, 189, 191, 193].filterMap (fun i => lw_tbl[i]?) := by decide +kernel
  rw [h] at hw
  obtain ⟨i, -, hi⟩ := List.mem_filterMap.mp hw
  exact List.mem_of_getElem? hi
theorem wi_X4 : ∀ w ∈ wsX40, w ∈ lw_tbl := by
  intro w hw
  have h : wsX40 = [107, 109].filterMap (fun i => lw_tbl[i]?) := by decide +kernel
  rw [h] at hw
  obtain ⟨i, -, hi⟩ := List.mem_filterMap.mp hw
  exact List.mem_of_getElem? hi
theorem wi_X5 : ∀ w ∈ wsX50, w ∈ lw_tbl := by
  intro w hw
  have h : wsX50 = [151, 153, 155, 157, 159, 161, 163, 165, 167, 169, 171, 173].filterMap (fun i => lw_tbl[i]?) := by decide +kernel
  rw [h] at hw
  obtain ⟨i, -, hi⟩ := List.mem_filterMap.mp hw
  exact List.mem_of_getElem? hi
theorem wi_X6 : ∀ w ∈ wsX60, w ∈ lw_tbl := by
  intro w hw
  have h : wsX60 = [214, 216, 218].filterMap (fun i => lw_tbl[i]?) := by decide +kernel
  rw [h] at hw
  obtain ⟨i, -, hi⟩ := List.mem_filterMap.mp hw
  exact List.mem_of_getElem? hi
theorem wi_X7 : ∀ w ∈ wsX70, w ∈ lw_tbl := by
  intro w hw
  have h : wsX70 = [336, 338, 340, 342, 344, 346, 348, 350, 352, 354, 356, 358, 360, 362, 364, 366].filterMap (fun i => lw_tbl[i]?) := by decide +kernel
  rw [h] at hw
  obtain ⟨i, -, hi⟩ := List.mem_filterMap.mp hw
  exact List.mem_of_getElem? hi
theorem wi_X8 : ∀ w ∈ wsX80, w ∈ lw_tbl := by
  intro w hw
  have h : wsX80 = [877, 879, 881, 883, 885, 887, 889, 891, 893, 895, 897, 899, 901, 903, 905, 907, 909, 911, 913, 915, 917, 919, 921, 923, 925, 927, 929, 931, 933, 935, 937, 939, 941].filterMap (fun i => lw_tbl[i]?) := by decide +kernel
  rw [h] at hw
  obtain ⟨i, -, hi⟩ := List.mem_filterMap.mp hw
  exact List.mem_of_getElem? hi
end
section
def isNest : Cond → Bool
  | .fieldLinkNest _ _ _ _ _ _ => true
  | .methodLinkNest _ _ _ _ => true
  | _ => false
def isAC : Cond → Bool
  | .arrayClass _ => true
  | _ => false
def isAO : Cond → Bool
  | .arrayOver (.object _) => true
  | _ => false
def okw (w : Cond) : Bool := (w.onTables && w.keeps) || isNest w || isAC w || isAO w
def tb2 : List Cond := lw_tbl.filter okw
theorem m2 {w : Cond} (h : w ∈ lw_tbl) (ho : okw w = true) : w ∈ tb2 := List.mem_filter.mpr ⟨h, ho⟩
theorem wj_X0 : ∀ w ∈ wsX00, w ∈ tb2 := fun w hw => m2 (wi_X0 w hw) (List.all_eq_true.mp (show wsX00.all okw = true by decide +kernel) w hw)
theorem wj_X1 : ∀ w ∈ wsX10, w ∈ tb2 := fun w hw => m2 (wi_X1 w hw) (List.all_eq_true.mp (show wsX10.all okw = true by decide +kernel) w hw)
theorem wj_X2 : ∀ w ∈ wsX20, w ∈ tb2 := fun w hw => m2 (wi_X2 w hw) (List.all_eq_true.mp (show wsX20.all okw = true by decide +kernel) w hw)
theorem wj_X3 : ∀ w ∈ wsX30, w ∈ tb2 := fun w hw => m2 (wi_X3 w hw) (List.all_eq_true.mp (show wsX30.all okw = true by decide +kernel) w hw)
theorem wj_X4 : ∀ w ∈ wsX40, w ∈ tb2 := fun w hw => m2 (wi_X4 w hw) (List.all_eq_true.mp (show wsX40.all okw = true by decide +kernel) w hw)
theorem wj_X5 : ∀ w ∈ wsX50, w ∈ tb2 := fun w hw => m2 (wi_X5 w hw) (List.all_eq_true.mp (show wsX50.all okw = true by decide +kernel) w hw)
theorem wj_X6 : ∀ w ∈ wsX60, w ∈ tb2 := fun w hw => m2 (wi_X6 w hw) (List.all_eq_true.mp (show wsX60.all okw = true by decide +kernel) w hw)
theorem wj_X7 : ∀ w ∈ wsX70, w ∈ tb2 := fun w hw => m2 (wi_X7 w hw) (List.all_eq_true.mp (show wsX70.all okw = true by decide +kernel) w hw)
theorem wj_X8 : ∀ w ∈ wsX80, w ∈ tb2 := fun w hw => m2 (wi_X8 w hw) (List.all_eq_true.mp (show wsX80.all okw = true by decide +kernel) w hw)
/-! the world: 93 cells of a fixed shape; ints and longs of it are the heap's picture -/
abbrev Hp : Type := (Nat → Nat → Int32) × (Nat → Nat → Int64)
def skL : List Nat := [7, 4, 9, 4, 9, 5, 9, 9, 9, 9, 9, 9, 9, 3, 9, 9, 9, 2, 6, 9, 9, 9, 0, 9, 9, 9, 9, 9, 9, 9, 9, 9, 9, 9, 9, 9, 2, 6, 9, 9, 9, 0, 9, 9, 9, 9, 9, 9, 9, 9, 9, 9, 9, 9, 9, 9, 9, 10, 9, 11, 1, 9, 1, 9, 1, 9, 1, 9, 8, 9, 9, 9, 9, 9, 9, 9, 9, 9, 9, 9, 9, 9, 9, 9, 9, 9, 9, 9, 9, 9, 9, 9, 10]
def slL : List Nat := [0, 0, 23, 0, 24, 0, 6, 6, 6, 24, 8, 8, 8, 0, 8, 8, 8, 0, 0, 24, 24, 24, 0, 144, 144, 144, 24, 6, 6, 6, 6, 6, 6, 6, 6, 6, 0, 0, 24, 24, 24, 0, 144, 144, 144, 24, 6, 6, 6, 6, 6, 6, 6, 6, 6, 24, 256, 240, 2, 4, 0, 60, 0, 60, 0, 60, 0, 60, 0, 4, 4, 240, 60, 48, 2, 18, 24, 3, 24, 6, 6, 6, 6, 6, 6, 6, 6, 144, 144, 144, 24, 24, 240]
def srL : List (List Nat) := [[1, 3, 5, 13, 17, 36, 55, 56, 57, 58, 59, 0, 0, 0, 0, 0], [2, 0], [], [4, 0], [], [6, 7, 8, 9, 10, 11, 12, 0, 0, 0, 0, 0], [], [], [], [], [], [], [], [14, 15, 16, 0], [], [], [], [18, 22, 27, 28, 29, 30, 31, 32, 33, 34, 35, 0, 0, 0, 0], [19, 20, 21], [], [], [], [23, 24, 25, 26], [], [], [], [], [], [], [], [], [], [], [], [], [], [37, 41, 46, 47, 48, 49, 50, 51, 52, 53, 54, 0, 0, 0, 0], [38, 39, 40], [], [], [], [42, 43, 44, 45], [], [], [], [], [], [], [], [], [], [], [], [], [], [], [], [], [], [60, 62, 64, 66], [61, 0, 0, 0], [], [63, 0, 0, 0], [], [65, 0, 0, 0], [], [67, 0, 0, 0], [], [69, 70, 71, 72, 0, 73, 74, 0, 75, 0, 76, 77, 0, 78, 0, 79, 80, 81, 82, 83, 84, 85, 86, 87, 88, 89, 90, 0, 0, 0, 91, 92, 0], [], [], [], [], [], [], [], [], [], [], [], [], [], [], [], [], [], [], [], [], [], [], [], []]
def sk (k : Nat) : Nat := skL.getD k 99
def sl (k : Nat) : Nat := slL.getD k 0
def sr (k j : Nat) : Nat := (srL.getD k []).getD j 0
def nfL : List Nat := [4, 4, 15, 4, 2, 12, 3, 16, 33]
def nf (c : Nat) : Nat := nfL.getD c 0
def isRL : List (List Bool) := [[true, true, true, true], [true, false, false, false], [true, true, true, true, true, true, true, true, true, true, true, false, false, false, false], [true, true, true, false], [true, false], [true, true, true, true, true, true, true, false, false, false, false, false], [true, true, true], [true, true, true, true, true, true, true, true, true, true, true, false, false, false, false, false], [true, true, true, true, false, true, true, false, true, false, true, true, false, true, false, true, true, true, true, true, true, true, true, true, true, true, true, false, false, false, true, true, false]]
def isR (c j : Nat) : Bool := (isRL.getD c []).getD j false
abbrev C3 : Type := ClassId × ClassId × ClassId
def mv (ad : Nat → Nat) : Value → Value
  | .ref a => .ref (ad a)
  | v => v
def mp (ad : Nat → Nat) (q : Nat × Value) : Nat × Value := (q.1, mv ad q.2)
def fv (ad : Nat → Nat) (h : Hp) (k j : Nat) : Value := if isR (sk k) j = true then .ref (ad (sr k j)) else .int (h.1 k j)
def ce (ad : Nat → Nat) (cs : C3) (h : Hp) (k : Nat) : va_E :=
  if sk k = 9 then .inl (cs.1, sl k, .inl (h.1 k))
  else if sk k = 10 then .inl (cs.2.1, sl k, .inr (.inl (h.2 k)))
  else if sk k = 11 then .inl (cs.2.2, sl k, .inr (.inr (.inr (.inr (fun i => some (ad (sr k i)))))))
  else .inr (sk k, (List.range (nf (sk k))).map (fv ad h k))
def wld (ad : Nat → Nat) (cs : C3) (h : Hp) : va_W := (List.range 93).map fun k => (ad k, ce ad cs h k)
def ty3 (cs : C3) : List (ClassId × FieldType) := [(cs.1, .int), (cs.2.1, .long), (cs.2.2, .object "WireWalkers$Sheet")]
def ij (ad : Nat → Nat) : Prop := ∀ i j, i < 93 → j < 93 → ad i = ad j → i = j
def inW (ad : Nat → Nat) : Nat → Prop := fun q => ∃ k, k < 93 ∧ q = ad k
def uf (h : Hp) (k j : Nat) (v : Int32) : Hp := (fun a => if a = k then upd (h.1 a) j v else h.1 a, h.2)
def ul (h : Hp) (k j : Nat) (v : Int64) : Hp := (h.1, fun a => if a = k then vp_updL (h.2 a) j v else h.2 a)
def ux (h : Hp) (k : Nat) (i : Int32) (v : Int32) : Hp := uf h k i.toNatClampNeg v
def uy (h : Hp) (k : Nat) (i : Int32) (v : Int64) : Hp := ul h k i.toNatClampNeg v
def ia (h : Hp) (k : Nat) (i : Int32) : Int32 := h.1 k i.toNatClampNeg
def la (h : Hp) (k : Nat) (i : Int32) : Int64 := h.2 k i.toNatClampNeg
def ucp (h : Hp) (a b : Nat) (i j n : Int32) : Hp := (fun z => if z = b then va_cpy (h.1 a) (h.1 b) i.toNatClampNeg j.toNatClampNeg n.toNatClampNeg else h.1 z, h.2)
theorem mv_cat (ad : Nat → Nat) (v : Value) : (mv ad v).category = v.category := by cases v <;> rfl
theorem sk_lt {k c : Nat} (h : sk k = c) (hc : c < 99) : k < 93 := by
  apply Nat.lt_of_not_le
  intro hk
  have : sk k = 99 := by
    unfold sk
    rw [List.getD_eq_getElem?_getD, List.getElem?_eq_none (by exact hk)]
    rfl
  omega
theorem wld_get {ad : Nat → Nat} {cs : C3} {h : Hp} {k : Nat} (hk : k < 93) : (wld ad cs h)[k]? = some (ad k, ce ad cs h k) := by
  unfold wld
  rw [List.getElem?_map, List.getElem?_range hk]
  rfl
theorem wld_D {ad : Nat → Nat} {cs : C3} {h : Hp} {A : Nat → Prop} (hi : ij ad) (hA : ∀ k, k < 93 → A (ad k)) : va_D A (wld ad cs h) := by
  have key : ∀ (k : Nat) (q : Nat × va_E), (wld ad cs h)[k]? = some q → k < 93 ∧ q.1 = ad k := by
    intro k q hq
    by_cases hk : k < 93
    · rw [wld_get hk] at hq
      cases hq
      exact ⟨hk, rfl⟩
    · rw [List.getElem?_eq_none (by simp [wld]; omega)] at hq
      cases hq
  refine ⟨fun i j p q hp hq e => ?_, fun k q hq => ?_⟩
  · obtain ⟨a1, a2⟩ := key i p hp
    obtain ⟨b1, b2⟩ := key j q hq
    exact hi i j a1 b1 (by rw [← a2, ← b2, e])
  · obtain ⟨a1, a2⟩ := key k q hq
    rw [a2]
    exact hA k a1
theorem wld_set {ad : Nat → Nat} {cs : C3} {h h' : Hp} {k : Nat} {e : va_E} (hk : k < 93) (he : e = ce ad cs h' k) (ho : ∀ j, j ≠ k → ce ad cs h' j = ce ad cs h j) : (wld ad cs h).set k (ad k, e) = wld ad cs h' := by
  apply List.ext_getElem?
  intro j
  by_cases hj : j = k
  · subst hj
    rw [List.getElem?_set_self (by simp [wld]; exact hk), wld_get hk, he]
  · rw [List.getElem?_set_ne (Ne.symm hj)]
    by_cases hj2 : j < 93
    · rw [wld_get hj2, wld_get hj2, ho j hj]
    · rw [List.getElem?_eq_none (by simp [wld]; omega), List.getElem?_eq_none (by simp [wld]; omega)]
theorem ce_ext {ad : Nat → Nat} {cs : C3} {h h' : Hp} {a : Nat} (e1 : h'.1 a = h.1 a) (e2 : h'.2 a = h.2 a) : ce ad cs h' a = ce ad cs h a := by
  have e3 : fv ad h' a = fv ad h a := by funext j; unfold fv; rw [e1]
  unfold ce
  rw [e1, e2, e3]
theorem ce_obj {ad : Nat → Nat} {cs : C3} {h : Hp} {k c : Nat} (hs : sk k = c) (hc : c < 9) : ce ad cs h k = .inr (c, (List.range (nf c)).map (fv ad h k)) := by
  unfold ce
  rw [hs, if_neg (by omega), if_neg (by omega), if_neg (by omega)]
theorem ce_int {ad : Nat → Nat} {cs : C3} {h : Hp} {k : Nat} (hs : sk k = 9) : ce ad cs h k = .inl (cs.1, sl k, .inl (h.1 k)) := by
  unfold ce
  rw [if_pos hs]
theorem ce_long {ad : Nat → Nat} {cs : C3} {h : Hp} {k : Nat} (hs : sk k = 10) : ce ad cs h k = .inl (cs.2.1, sl k, .inr (.inl (h.2 k))) := by
  unfold ce
  rw [hs, if_neg (by decide), if_pos rfl]
theorem ce_ref {ad : Nat → Nat} {cs : C3} {h : Hp} {k : Nat} (hs : sk k = 11) : ce ad cs h k = .inl (cs.2.2, sl k, .inr (.inr (.inr (.inr (fun i => some (ad (sr k i))))))) := by
  unfold ce
  rw [hs, if_neg (by decide), if_neg (by decide), if_pos rfl]
theorem uf_ne {h : Hp} {k j a : Nat} {v : Int32} (ha : a ≠ k) : (uf h k j v).1 a = h.1 a := by simp [uf, ha]
theorem uf_at {h : Hp} {k j : Nat} {v : Int32} : (uf h k j v).1 k = upd (h.1 k) j v := by simp [uf]
theorem uf_2 {h : Hp} {k j : Nat} {v : Int32} : (uf h k j v).2 = h.2 := rfl
theorem ul_ne {h : Hp} {k j a : Nat} {v : Int64} (ha : a ≠ k) : (ul h k j v).2 a = h.2 a := by simp [ul, ha]
theorem ul_at {h : Hp} {k j : Nat} {v : Int64} : (ul h k j v).2 k = vp_updL (h.2 k) j v := by simp [ul]
theorem ul_1 {h : Hp} {k j : Nat} {v : Int64} : (ul h k j v).1 = h.1 := rfl
theorem set_fld {ad : Nat → Nat} {h : Hp} {k c j : Nat} {v : Int32} (hs : sk k = c) (hj : j < nf c) (hr : isR c j = false) : ((List.range (nf c)).map (fv ad h k)).set j (.int v) = (List.range (nf c)).map (fv ad (uf h k j v) k) := by
  apply List.ext_getElem?
  intro i
  by_cases hi : i = j
  · subst hi
    rw [List.getElem?_set_self (by simp; exact hj), List.getElem?_map, List.getElem?_range hj]
    simp [fv, hs, hr, uf_at, upd]
  · rw [List.getElem?_set_ne (Ne.symm hi), List.getElem?_map, List.getElem?_map]
    by_cases h2 : i < nf c
    · rw [List.getElem?_range h2]
      simp [fv, uf_at, upd, hi]
    · rw [List.getElem?_eq_none (by simp; omega)]
      rfl
/-! the judgement -/
abbrev Kx (Out : Type) : Type _ := (Program × Launch × Env × Room × State × MethodId × Array Value × List Frame × Method × Code) × (Nat → Nat) × va_G × C3 × (Nat → Prop) × Nat × Nat × Nat × (Out → State → Prop)
section KX
variable {Out : Type}
abbrev kp (κ : Kx Out) : Program := κ.1.1
abbrev kl (κ : Kx Out) : Launch := κ.1.2.1
abbrev ke (κ : Kx Out) : Env := κ.1.2.2.1
abbrev kR (κ : Kx Out) : Room := κ.1.2.2.2.1
abbrev ks (κ : Kx Out) : State := κ.1.2.2.2.2.1
abbrev km (κ : Kx Out) : MethodId := κ.1.2.2.2.2.2.1
abbrev ka (κ : Kx Out) : Array Value := κ.1.2.2.2.2.2.2.1
abbrev kb (κ : Kx Out) : List Frame := κ.1.2.2.2.2.2.2.2.1
abbrev kme (κ : Kx Out) : Method := κ.1.2.2.2.2.2.2.2.2.1
abbrev kc (κ : Kx Out) : Code := κ.1.2.2.2.2.2.2.2.2.2
abbrev kad (κ : Kx Out) : Nat → Nat := κ.2.1
abbrev kD (κ : Kx Out) : va_G := κ.2.2.1
abbrev kcs (κ : Kx Out) : C3 := κ.2.2.2.1
abbrev kA (κ : Kx Out) : Nat → Prop := κ.2.2.2.2.1
abbrev kn (κ : Kx Out) : Nat := κ.2.2.2.2.2.1
abbrev kcl (κ : Kx Out) : Nat := κ.2.2.2.2.2.2.1
abbrev ksl (κ : Kx Out) : Nat := κ.2.2.2.2.2.2.2.1
abbrev kQ (κ : Kx Out) : Out → State → Prop := κ.2.2.2.2.2.2.2.2
abbrev Wk (κ : Kx Out) (Q : State → Prop) (H : Heap) (locs : List Loc) (g : JFrame) : Prop := W (kp κ) (kl κ) (ke κ) (kR κ) (ks κ) (km κ) (ka κ) (kb κ) (kme κ) (kc κ) H locs (kcl κ) (ksl κ) Q g
def Xz (κ : Kx Out) (o : Option Out) (pc : Nat) (ls : List (Nat × Value)) (st : List Value) (h : Hp) : Prop :=
  ∀ out, o = some out → ∀ (H : Heap) (locs : List Loc) (arr : Array Slot), va_P (kD κ) vwCl (wld (kad κ) (kcs κ) h) H → va_S (kA κ) (ks κ).heap H locs → lv_has arr (kn κ) (ls.map (mp (kad κ))) → Wk κ (kQ κ out) H locs (F0 (km κ) pc arr (st.map (mv (kad κ))))
def Gd (κ : Kx Out) (cc : ByteArray) (own : String) (n : Nat) : Prop :=
  (kp κ).tables.exec = Jvm.exec ∧ (kc κ).code = cc ∧ (kc κ).maxLocals = kn κ ∧ (ks κ).vm.findClass own = some (km κ).cls ∧ (∀ w ∈ tb2, w.before (ka κ) (ks κ) = true) ∧ va_K (kD κ) vwCl (ty3 (kcs κ)) (ks κ) ∧ ij (kad κ) ∧ (∀ k, k < 93 → kA κ (kad κ k)) ∧ n ≤ (kR κ).frames ∧ 40 * n ≤ (kR κ).locals ∧ kcl κ ≤ (kR κ).cells ∧ ksl κ ≤ (kR κ).slots ∧ (kme κ).locks = false
variable {κ : Kx Out} {cc : ByteArray} {own : String} {n : Nat}
theorem Gd.x (C : Gd κ cc own n) : (kp κ).tables.exec = Jvm.exec := C.1
theorem Gd.b (C : Gd κ cc own n) : (kc κ).code = cc := C.2.1
theorem Gd.ml (C : Gd κ cc own n) : (kc κ).maxLocals = kn κ := C.2.2.1
theorem Gd.ow (C : Gd κ cc own n) : (ks κ).vm.findClass own = some (km κ).cls := C.2.2.2.1
theorem Gd.ts (C : Gd κ cc own n) : ∀ w ∈ tb2, w.before (ka κ) (ks κ) = true := C.2.2.2.2.1
theorem Gd.K (C : Gd κ cc own n) : va_K (kD κ) vwCl (ty3 (kcs κ)) (ks κ) := C.2.2.2.2.2.1
theorem Gd.ij (C : Gd κ cc own n) : ij (kad κ) := C.2.2.2.2.2.2.1
theorem Gd.A (C : Gd κ cc own n) : ∀ k, k < 93 → kA κ (kad κ k) := C.2.2.2.2.2.2.2.1
theorem Gd.fr (C : Gd κ cc own n) : n ≤ (kR κ).frames := C.2.2.2.2.2.2.2.2.1
theorem Gd.lo (C : Gd κ cc own n) : 40 * n ≤ (kR κ).locals := C.2.2.2.2.2.2.2.2.2.1
theorem Gd.cl (C : Gd κ cc own n) : kcl κ ≤ (kR κ).cells := C.2.2.2.2.2.2.2.2.2.2.1
theorem Gd.sl (C : Gd κ cc own n) : ksl κ ≤ (kR κ).slots := C.2.2.2.2.2.2.2.2.2.2.2.1
theorem Gd.lk (C : Gd κ cc own n) : (kme κ).locks = false := C.2.2.2.2.2.2.2.2.2.2.2.2
theorem Gd.D (C : Gd κ cc own n) (h : Hp) : va_D (kA κ) (wld (kad κ) (kcs κ) h) := wld_D C.ij C.A
end KX
/-! the pieces that the answers are written with -/
def nm {α β : Type} (e : α) (T : α → β) : β := T e
def ck {α : Type} (i : Int32) (n : Nat) (T : Option α) : Option α := if ¬ (i < 0 ∨ n ≤ i.toNatClampNeg) then T else none
def cn {α : Type} (b : Prop) [Decidable b] (T : Option α) : Option α := if b then none else T
def cy {α : Type} (b : Prop) [Decidable b] (T : Option α) : Option α := if b then T else none
def bnd {α β : Type} (o : Option (Hp × α)) (T : Hp → α → Option β) : Option β := match o with
  | some (h, a) => T h a
  | none => none
def bdv {β : Type} (o : Option Hp) (T : Hp → Option β) : Option β := match o with
  | some h => T h
  | none => none
def bdr {α β : Type} (o : Option α) (T : α → Option β) : Option β := match o with
  | some a => T a
  | none => none
def FU : Nat := 1000
theorem nm_eq {α β : Type} (e : α) (T : α → β) : nm e T = T e := rfl
theorem bnd_some {α β : Type} (h : Hp) (a : α) (T : Hp → α → Option β) : bnd (some (h, a)) T = T h a := rfl
theorem bdv_some {β : Type} (h : Hp) (T : Hp → Option β) : bdv (some h) T = T h := rfl
theorem bdr_some {α β : Type} (a : α) (T : α → Option β) : bdr (some a) T = T a := rfl
def fx1 {A1 Out : Type} (n : Nat) (F : (A1 → Option Out) → A1 → Option Out) : A1 → Option Out := match n with
  | 0 => fun _ => none
  | m + 1 => F (fx1 m F)
theorem fx1_succ {A1 Out : Type} (n : Nat) (F : (A1 → Option Out) → A1 → Option Out) (a1 : A1) : fx1 (n + 1) F a1 = F (fx1 n F) a1 := rfl
theorem fx1_pos {A1 Out : Type} {n : Nat} (hn : 0 < n) (F : (A1 → Option Out) → A1 → Option Out) (a1 : A1) : fx1 n F a1 = F (fx1 (n - 1) F) a1 := by
  cases n with
  | zero => omega
  | succ n => rfl
theorem x_fx1 {A1 Out : Type} {κ : Kx Out} {n pc : Nat} {F : (A1 → Option Out) → A1 → Option Out} (ls : A1 → List (Nat × Value)) (st : A1 → List Value) (hh : A1 → Hp)
    (H : ∀ self : A1 → Option Out, (∀ a1, Xz κ (self a1) pc (ls a1) (st a1) (hh a1)) → ∀ a1, Xz κ (F self a1) pc (ls a1) (st a1) (hh a1)) : ∀ a1, Xz κ (fx1 n F a1) pc (ls a1) (st a1) (hh a1) := by
  induction n with
  | zero => intro a1 out ho; cases ho
  | succ n ih => exact H (fx1 n F) ih
def lt1 {A1 Out : Type} (k : A1 → Option Out) (b : (A1 → Option Out) → Option Out) : Option Out := b k
theorem lt1_eq {A1 Out : Type} (k : A1 → Option Out) (b : (A1 → Option Out) → Option Out) : lt1 k b = b k := rfl
theorem x_lt1 {A1 Out : Type} {κ : Kx Out} {pc q : Nat} {l0 : List (Nat × Value)} {s0 : List Value} {h0 : Hp} {k : A1 → Option Out} {b : (A1 → Option Out) → Option Out} (ls : A1 → List (Nat × Value)) (st : A1 → List Value) (hh : A1 → Hp)
    (J : ∀ a1, Xz κ (k a1) q (ls a1) (st a1) (hh a1)) (B : ∀ k : A1 → Option Out, (∀ a1, Xz κ (k a1) q (ls a1) (st a1) (hh a1)) → Xz κ (b k) pc l0 s0 h0) : Xz κ (lt1 k b) pc l0 s0 h0 := B k J
def fx2 {A1 A2 Out : Type} (n : Nat) (F : (A1 → A2 → Option Out) → A1 → A2 → Option Out) : A1 → A2 → Option Out := match n with
  | 0 => fun _ _ => none
  | m + 1 => F (fx2 m F)
theorem fx2_succ {A1 A2 Out : Type} (n : Nat) (F : (A1 → A2 → Option Out) → A1 → A2 → Option Out) (a1 : A1) (a2 : A2) : fx2 (n + 1) F a1 a2 = F (fx2 n F) a1 a2 := rfl
theorem fx2_pos {A1 A2 Out : Type} {n : Nat} (hn : 0 < n) (F : (A1 → A2 → Option Out) → A1 → A2 → Option Out) (a1 : A1) (a2 : A2) : fx2 n F a1 a2 = F (fx2 (n - 1) F) a1 a2 := by
  cases n with
  | zero => omega
  | succ n => rfl
theorem x_fx2 {A1 A2 Out : Type} {κ : Kx Out} {n pc : Nat} {F : (A1 → A2 → Option Out) → A1 → A2 → Option Out} (ls : A1 → A2 → List (Nat × Value)) (st : A1 → A2 → List Value) (hh : A1 → A2 → Hp)
    (H : ∀ self : A1 → A2 → Option Out, (∀ a1 a2, Xz κ (self a1 a2) pc (ls a1 a2) (st a1 a2) (hh a1 a2)) → ∀ a1 a2, Xz κ (F self a1 a2) pc (ls a1 a2) (st a1 a2) (hh a1 a2)) : ∀ a1 a2, Xz κ (fx2 n F a1 a2) pc (ls a1 a2) (st a1 a2) (hh a1 a2) := by
  induction n with
  | zero => intro a1 a2 out ho; cases ho
  | succ n ih => exact H (fx2 n F) ih
def lt2 {A1 A2 Out : Type} (k : A1 → A2 → Option Out) (b : (A1 → A2 → Option Out) → Option Out) : Option Out := b k
theorem lt2_eq {A1 A2 Out : Type} (k : A1 → A2 → Option Out) (b : (A1 → A2 → Option Out) → Option Out) : lt2 k b = b k := rfl
theorem x_lt2 {A1 A2 Out : Type} {κ : Kx Out} {pc q : Nat} {l0 : List (Nat × Value)} {s0 : List Value} {h0 : Hp} {k : A1 → A2 → Option Out} {b : (A1 → A2 → Option Out) → Option Out} (ls : A1 → A2 → List (Nat × Value)) (st : A1 → A2 → List Value) (hh : A1 → A2 → Hp)
    (J : ∀ a1 a2, Xz κ (k a1 a2) q (ls a1 a2) (st a1 a2) (hh a1 a2)) (B : ∀ k : A1 → A2 → Option Out, (∀ a1 a2, Xz κ (k a1 a2) q (ls a1 a2) (st a1 a2) (hh a1 a2)) → Xz κ (b k) pc l0 s0 h0) : Xz κ (lt2 k b) pc l0 s0 h0 := B k J
def fx3 {A1 A2 A3 Out : Type} (n : Nat) (F : (A1 → A2 → A3 → Option Out) → A1 → A2 → A3 → Option Out) : A1 → A2 → A3 → Option Out := match n with
  | 0 => fun _ _ _ => none
  | m + 1 => F (fx3 m F)
theorem fx3_succ {A1 A2 A3 Out : Type} (n : Nat) (F : (A1 → A2 → A3 → Option Out) → A1 → A2 → A3 → Option Out) (a1 : A1) (a2 : A2) (a3 : A3) : fx3 (n + 1) F a1 a2 a3 = F (fx3 n F) a1 a2 a3 := rfl
theorem fx3_pos {A1 A2 A3 Out : Type} {n : Nat} (hn : 0 < n) (F : (A1 → A2 → A3 → Option Out) → A1 → A2 → A3 → Option Out) (a1 : A1) (a2 : A2) (a3 : A3) : fx3 n F a1 a2 a3 = F (fx3 (n - 1) F) a1 a2 a3 := by
  cases n with
  | zero => omega
  | succ n => rfl
theorem x_fx3 {A1 A2 A3 Out : Type} {κ : Kx Out} {n pc : Nat} {F : (A1 → A2 → A3 → Option Out) → A1 → A2 → A3 → Option Out} (ls : A1 → A2 → A3 → List (Nat × Value)) (st : A1 → A2 → A3 → List Value) (hh : A1 → A2 → A3 → Hp)
    (H : ∀ self : A1 → A2 → A3 → Option Out, (∀ a1 a2 a3, Xz κ (self a1 a2 a3) pc (ls a1 a2 a3) (st a1 a2 a3) (hh a1 a2 a3)) → ∀ a1 a2 a3, Xz κ (F self a1 a2 a3) pc (ls a1 a2 a3) (st a1 a2 a3) (hh a1 a2 a3)) : ∀ a1 a2 a3, Xz κ (fx3 n F a1 a2 a3) pc (ls a1 a2 a3) (st a1 a2 a3) (hh a1 a2 a3) := by
  induction n with
  | zero => intro a1 a2 a3 out ho; cases ho
  | succ n ih => exact H (fx3 n F) ih
def lt3 {A1 A2 A3 Out : Type} (k : A1 → A2 → A3 → Option Out) (b : (A1 → A2 → A3 → Option Out) → Option Out) : Option Out := b k
theorem lt3_eq {A1 A2 A3 Out : Type} (k : A1 → A2 → A3 → Option Out) (b : (A1 → A2 → A3 → Option Out) → Option Out) : lt3 k b = b k := rfl
theorem x_lt3 {A1 A2 A3 Out : Type} {κ : Kx Out} {pc q : Nat} {l0 : List (Nat × Value)} {s0 : List Value} {h0 : Hp} {k : A1 → A2 → A3 → Option Out} {b : (A1 → A2 → A3 → Option Out) → Option Out} (ls : A1 → A2 → A3 → List (Nat × Value)) (st : A1 → A2 → A3 → List Value) (hh : A1 → A2 → A3 → Hp)
    (J : ∀ a1 a2 a3, Xz κ (k a1 a2 a3) q (ls a1 a2 a3) (st a1 a2 a3) (hh a1 a2 a3)) (B : ∀ k : A1 → A2 → A3 → Option Out, (∀ a1 a2 a3, Xz κ (k a1 a2 a3) q (ls a1 a2 a3) (st a1 a2 a3) (hh a1 a2 a3)) → Xz κ (b k) pc l0 s0 h0) : Xz κ (lt3 k b) pc l0 s0 h0 := B k J
def fx4 {A1 A2 A3 A4 Out : Type} (n : Nat) (F : (A1 → A2 → A3 → A4 → Option Out) → A1 → A2 → A3 → A4 → Option Out) : A1 → A2 → A3 → A4 → Option Out := match n with
  | 0 => fun _ _ _ _ => none
  | m + 1 => F (fx4 m F)
theorem fx4_succ {A1 A2 A3 A4 Out : Type} (n : Nat) (F : (A1 → A2 → A3 → A4 → Option Out) → A1 → A2 → A3 → A4 → Option Out) (a1 : A1) (a2 : A2) (a3 : A3) (a4 : A4) : fx4 (n + 1) F a1 a2 a3 a4 = F (fx4 n F) a1 a2 a3 a4 := rfl
theorem fx4_pos {A1 A2 A3 A4 Out : Type} {n : Nat} (hn : 0 < n) (F : (A1 → A2 → A3 → A4 → Option Out) → A1 → A2 → A3 → A4 → Option Out) (a1 : A1) (a2 : A2) (a3 : A3) (a4 : A4) : fx4 n F a1 a2 a3 a4 = F (fx4 (n - 1) F) a1 a2 a3 a4 := by
  cases n with
  | zero => omega
  | succ n => rfl
theorem x_fx4 {A1 A2 A3 A4 Out : Type} {κ : Kx Out} {n pc : Nat} {F : (A1 → A2 → A3 → A4 → Option Out) → A1 → A2 → A3 → A4 → Option Out} (ls : A1 → A2 → A3 → A4 → List (Nat × Value)) (st : A1 → A2 → A3 → A4 → List Value) (hh : A1 → A2 → A3 → A4 → Hp)
    (H : ∀ self : A1 → A2 → A3 → A4 → Option Out, (∀ a1 a2 a3 a4, Xz κ (self a1 a2 a3 a4) pc (ls a1 a2 a3 a4) (st a1 a2 a3 a4) (hh a1 a2 a3 a4)) → ∀ a1 a2 a3 a4, Xz κ (F self a1 a2 a3 a4) pc (ls a1 a2 a3 a4) (st a1 a2 a3 a4) (hh a1 a2 a3 a4)) : ∀ a1 a2 a3 a4, Xz κ (fx4 n F a1 a2 a3 a4) pc (ls a1 a2 a3 a4) (st a1 a2 a3 a4) (hh a1 a2 a3 a4) := by
  induction n with
  | zero => intro a1 a2 a3 a4 out ho; cases ho
  | succ n ih => exact H (fx4 n F) ih
def lt4 {A1 A2 A3 A4 Out : Type} (k : A1 → A2 → A3 → A4 → Option Out) (b : (A1 → A2 → A3 → A4 → Option Out) → Option Out) : Option Out := b k
theorem lt4_eq {A1 A2 A3 A4 Out : Type} (k : A1 → A2 → A3 → A4 → Option Out) (b : (A1 → A2 → A3 → A4 → Option Out) → Option Out) : lt4 k b = b k := rfl
theorem x_lt4 {A1 A2 A3 A4 Out : Type} {κ : Kx Out} {pc q : Nat} {l0 : List (Nat × Value)} {s0 : List Value} {h0 : Hp} {k : A1 → A2 → A3 → A4 → Option Out} {b : (A1 → A2 → A3 → A4 → Option Out) → Option Out} (ls : A1 → A2 → A3 → A4 → List (Nat × Value)) (st : A1 → A2 → A3 → A4 → List Value) (hh : A1 → A2 → A3 → A4 → Hp)
    (J : ∀ a1 a2 a3 a4, Xz κ (k a1 a2 a3 a4) q (ls a1 a2 a3 a4) (st a1 a2 a3 a4) (hh a1 a2 a3 a4)) (B : ∀ k : A1 → A2 → A3 → A4 → Option Out, (∀ a1 a2 a3 a4, Xz κ (k a1 a2 a3 a4) q (ls a1 a2 a3 a4) (st a1 a2 a3 a4) (hh a1 a2 a3 a4)) → Xz κ (b k) pc l0 s0 h0) : Xz κ (lt4 k b) pc l0 s0 h0 := B k J
def fx5 {A1 A2 A3 A4 A5 Out : Type} (n : Nat) (F : (A1 → A2 → A3 → A4 → A5 → Option Out) → A1 → A2 → A3 → A4 → A5 → Option Out) : A1 → A2 → A3 → A4 → A5 → Option Out := match n with
  | 0 => fun _ _ _ _ _ => none
  | m + 1 => F (fx5 m F)
theorem fx5_succ {A1 A2 A3 A4 A5 Out : Type} (n : Nat) (F : (A1 → A2 → A3 → A4 → A5 → Option Out) → A1 → A2 → A3 → A4 → A5 → Option Out) (a1 : A1) (a2 : A2) (a3 : A3) (a4 : A4) (a5 : A5) : fx5 (n + 1) F a1 a2 a3 a4 a5 = F (fx5 n F) a1 a2 a3 a4 a5 := rfl
theorem fx5_pos {A1 A2 A3 A4 A5 Out : Type} {n : Nat} (hn : 0 < n) (F : (A1 → A2 → A3 → A4 → A5 → Option Out) → A1 → A2 → A3 → A4 → A5 → Option Out) (a1 : A1) (a2 : A2) (a3 : A3) (a4 : A4) (a5 : A5) : fx5 n F a1 a2 a3 a4 a5 = F (fx5 (n - 1) F) a1 a2 a3 a4 a5 := by
  cases n with
  | zero => omega
  | succ n => rfl
theorem x_fx5 {A1 A2 A3 A4 A5 Out : Type} {κ : Kx Out} {n pc : Nat} {F : (A1 → A2 → A3 → A4 → A5 → Option Out) → A1 → A2 → A3 → A4 → A5 → Option Out} (ls : A1 → A2 → A3 → A4 → A5 → List (Nat × Value)) (st : A1 → A2 → A3 → A4 → A5 → List Value) (hh : A1 → A2 → A3 → A4 → A5 → Hp)
    (H : ∀ self : A1 → A2 → A3 → A4 → A5 → Option Out, (∀ a1 a2 a3 a4 a5, Xz κ (self a1 a2 a3 a4 a5) pc (ls a1 a2 a3 a4 a5) (st a1 a2 a3 a4 a5) (hh a1 a2 a3 a4 a5)) → ∀ a1 a2 a3 a4 a5, Xz κ (F self a1 a2 a3 a4 a5) pc (ls a1 a2 a3 a4 a5) (st a1 a2 a3 a4 a5) (hh a1 a2 a3 a4 a5)) : ∀ a1 a2 a3 a4 a5, Xz κ (fx5 n F a1 a2 a3 a4 a5) pc (ls a1 a2 a3 a4 a5) (st a1 a2 a3 a4 a5) (hh a1 a2 a3 a4 a5) := by
  induction n with
  | zero => intro a1 a2 a3 a4 a5 out ho; cases ho
  | succ n ih => exact H (fx5 n F) ih
def lt5 {A1 A2 A3 A4 A5 Out : Type} (k : A1 → A2 → A3 → A4 → A5 → Option Out) (b : (A1 → A2 → A3 → A4 → A5 → Option Out) → Option Out) : Option Out := b k
theorem lt5_eq {A1 A2 A3 A4 A5 Out : Type} (k : A1 → A2 → A3 → A4 → A5 → Option Out) (b : (A1 → A2 → A3 → A4 → A5 → Option Out) → Option Out) : lt5 k b = b k := rfl
theorem x_lt5 {A1 A2 A3 A4 A5 Out : Type} {κ : Kx Out} {pc q : Nat} {l0 : List (Nat × Value)} {s0 : List Value} {h0 : Hp} {k : A1 → A2 → A3 → A4 → A5 → Option Out} {b : (A1 → A2 → A3 → A4 → A5 → Option Out) → Option Out} (ls : A1 → A2 → A3 → A4 → A5 → List (Nat × Value)) (st : A1 → A2 → A3 → A4 → A5 → List Value) (hh : A1 → A2 → A3 → A4 → A5 → Hp)
    (J : ∀ a1 a2 a3 a4 a5, Xz κ (k a1 a2 a3 a4 a5) q (ls a1 a2 a3 a4 a5) (st a1 a2 a3 a4 a5) (hh a1 a2 a3 a4 a5)) (B : ∀ k : A1 → A2 → A3 → A4 → A5 → Option Out, (∀ a1 a2 a3 a4 a5, Xz κ (k a1 a2 a3 a4 a5) q (ls a1 a2 a3 a4 a5) (st a1 a2 a3 a4 a5) (hh a1 a2 a3 a4 a5)) → Xz κ (b k) pc l0 s0 h0) : Xz κ (lt5 k b) pc l0 s0 h0 := B k J
def fx6 {A1 A2 A3 A4 A5 A6 Out : Type} (n : Nat) (F : (A1 → A2 → A3 → A4 → A5 → A6 → Option Out) → A1 → A2 → A3 → A4 → A5 → A6 → Option Out) : A1 → A2 → A3 → A4 → A5 → A6 → Option Out := match n with
  | 0 => fun _ _ _ _ _ _ => none
  | m + 1 => F (fx6 m F)
theorem fx6_succ {A1 A2 A3 A4 A5 A6 Out : Type} (n : Nat) (F : (A1 → A2 → A3 → A4 → A5 → A6 → Option Out) → A1 → A2 → A3 → A4 → A5 → A6 → Option Out) (a1 : A1) (a2 : A2) (a3 : A3) (a4 : A4) (a5 : A5) (a6 : A6) : fx6 (n + 1) F a1 a2 a3 a4 a5 a6 = F (fx6 n F) a1 a2 a3 a4 a5 a6 := rfl
theorem fx6_pos {A1 A2 A3 A4 A5 A6 Out : Type} {n : Nat} (hn : 0 < n) (F : (A1 → A2 → A3 → A4 → A5 → A6 → Option Out) → A1 → A2 → A3 → A4 → A5 → A6 → Option Out) (a1 : A1) (a2 : A2) (a3 : A3) (a4 : A4) (a5 : A5) (a6 : A6) : fx6 n F a1 a2 a3 a4 a5 a6 = F (fx6 (n - 1) F) a1 a2 a3 a4 a5 a6 := by
  cases n with
  | zero => omega
  | succ n => rfl
theorem x_fx6 {A1 A2 A3 A4 A5 A6 Out : Type} {κ : Kx Out} {n pc : Nat} {F : (A1 → A2 → A3 → A4 → A5 → A6 → Option Out) → A1 → A2 → A3 → A4 → A5 → A6 → Option Out} (ls : A1 → A2 → A3 → A4 → A5 → A6 → List (Nat × Value)) (st : A1 → A2 → A3 → A4 → A5 → A6 → List Value) (hh : A1 → A2 → A3 → A4 → A5 → A6 → Hp)
    (H : ∀ self : A1 → A2 → A3 → A4 → A5 → A6 → Option Out, (∀ a1 a2 a3 a4 a5 a6, Xz κ (self a1 a2 a3 a4 a5 a6) pc (ls a1 a2 a3 a4 a5 a6) (st a1 a2 a3 a4 a5 a6) (hh a1 a2 a3 a4 a5 a6)) → ∀ a1 a2 a3 a4 a5 a6, Xz κ (F self a1 a2 a3 a4 a5 a6) pc (ls a1 a2 a3 a4 a5 a6) (st a1 a2 a3 a4 a5 a6) (hh a1 a2 a3 a4 a5 a6)) : ∀ a1 a2 a3 a4 a5 a6, Xz κ (fx6 n F a1 a2 a3 a4 a5 a6) pc (ls a1 a2 a3 a4 a5 a6) (st a1 a2 a3 a4 a5 a6) (hh a1 a2 a3 a4 a5 a6) := by
  induction n with
  | zero => intro a1 a2 a3 a4 a5 a6 out ho; cases ho
  | succ n ih => exact H (fx6 n F) ih
def lt6 {A1 A2 A3 A4 A5 A6 Out : Type} (k : A1 → A2 → A3 → A4 → A5 → A6 → Option Out) (b : (A1 → A2 → A3 → A4 → A5 → A6 → Option Out) → Option Out) : Option Out := b k
theorem lt6_eq {A1 A2 A3 A4 A5 A6 Out : Type} (k : A1 → A2 → A3 → A4 → A5 → A6 → Option Out) (b : (A1 → A2 → A3 → A4 → A5 → A6 → Option Out) → Option Out) : lt6 k b = b k := rfl
theorem x_lt6 {A1 A2 A3 A4 A5 A6 Out : Type} {κ : Kx Out} {pc q : Nat} {l0 : List (Nat × Value)} {s0 : List Value} {h0 : Hp} {k : A1 → A2 → A3 → A4 → A5 → A6 → Option Out} {b : (A1 → A2 → A3 → A4 → A5 → A6 → Option Out) → Option Out} (ls : A1 → A2 → A3 → A4 → A5 → A6 → List (Nat × Value)) (st : A1 → A2 → A3 → A4 → A5 → A6 → List Value) (hh : A1 → A2 → A3 → A4 → A5 → A6 → Hp)
    (J : ∀ a1 a2 a3 a4 a5 a6, Xz κ (k a1 a2 a3 a4 a5 a6) q (ls a1 a2 a3 a4 a5 a6) (st a1 a2 a3 a4 a5 a6) (hh a1 a2 a3 a4 a5 a6)) (B : ∀ k : A1 → A2 → A3 → A4 → A5 → A6 → Option Out, (∀ a1 a2 a3 a4 a5 a6, Xz κ (k a1 a2 a3 a4 a5 a6) q (ls a1 a2 a3 a4 a5 a6) (st a1 a2 a3 a4 a5 a6) (hh a1 a2 a3 a4 a5 a6)) → Xz κ (b k) pc l0 s0 h0) : Xz κ (lt6 k b) pc l0 s0 h0 := B k J
def fx7 {A1 A2 A3 A4 A5 A6 A7 Out : Type} (n : Nat) (F : (A1 → A2 → A3 → A4 → A5 → A6 → A7 → Option Out) → A1 → A2 → A3 → A4 → A5 → A6 → A7 → Option Out) : A1 → A2 → A3 → A4 → A5 → A6 → A7 → Option Out := match n with
  | 0 => fun _ _ _ _ _ _ _ => none
  | m + 1 => F (fx7 m F)
theorem fx7_succ {A1 A2 A3 A4 A5 A6 A7 Out : Type} (n : Nat) (F : (A1 → A2 → A3 → A4 → A5 → A6 → A7 → Option Out) → A1 → A2 → A3 → A4 → A5 → A6 → A7 → Option Out) (a1 : A1) (a2 : A2) (a3 : A3) (a4 : A4) (a5 : A5) (a6 : A6) (a7 : A7) : fx7 (n + 1) F a1 a2 a3 a4 a5 a6 a7 = F (fx7 n F) a1 a2 a3 a4 a5 a6 a7 := rfl
theorem fx7_pos {A1 A2 A3 A4 A5 A6 A7 Out : Type} {n : Nat} (hn : 0 < n) (F : (A1 → A2 → A3 → A4 → A5 → A6 → A7 → Option Out) → A1 → A2 → A3 → A4 → A5 → A6 → A7 → Option Out) (a1 : A1) (a2 : A2) (a3 : A3) (a4 : A4) (a5 : A5) (a6 : A6) (a7 : A7) : fx7 n F a1 a2 a3 a4 a5 a6 a7 = F (fx7 (n - 1) F) a1 a2 a3 a4 a5 a6 a7 := by
  cases n with
  | zero => omega
  | succ n => rfl
theorem x_fx7 {A1 A2 A3 A4 A5 A6 A7 Out : Type} {κ : Kx Out} {n pc : Nat} {F : (A1 → A2 → A3 → A4 → A5 → A6 → A7 → Option Out) → A1 → A2 → A3 → A4 → A5 → A6 → A7 → Option Out} (ls : A1 → A2 → A3 → A4 → A5 → A6 → A7 → List (Nat × Value)) (st : A1 → A2 → A3 → A4 → A5 → A6 → A7 → List Value) (hh : A1 → A2 → A3 → A4 → A5 → A6 → A7 → Hp)
    (H : ∀ self : A1 → A2 → A3 → A4 → A5 → A6 → A7 → Option Out, (∀ a1 a2 a3 a4 a5 a6 a7, Xz κ (self a1 a2 a3 a4 a5 a6 a7) pc (ls a1 a2 a3 a4 a5 a6 a7) (st a1 a2 a3 a4 a5 a6 a7) (hh a1 a2 a3 a4 a5 a6 a7)) → ∀ a1 a2 a3 a4 a5 a6 a7, Xz κ (F self a1 a2 a3 a4 a5 a6 a7) pc (ls a1 a2 a3 a4 a5 a6 a7) (st a1 a2 a3 a4 a5 a6 a7) (hh a1 a2 a3 a4 a5 a6 a7)) : ∀ a1 a2 a3 a4 a5 a6 a7, Xz κ (fx7 n F a1 a2 a3 a4 a5 a6 a7) pc (ls a1 a2 a3 a4 a5 a6 a7) (st a1 a2 a3 a4 a5 a6 a7) (hh a1 a2 a3 a4 a5 a6 a7) := by
  induction n with
  | zero => intro a1 a2 a3 a4 a5 a6 a7 out ho; cases ho
  | succ n ih => exact H (fx7 n F) ih
def lt7 {A1 A2 A3 A4 A5 A6 A7 Out : Type} (k : A1 → A2 → A3 → A4 → A5 → A6 → A7 → Option Out) (b : (A1 → A2 → A3 → A4 → A5 → A6 → A7 → Option Out) → Option Out) : Option Out := b k
theorem lt7_eq {A1 A2 A3 A4 A5 A6 A7 Out : Type} (k : A1 → A2 → A3 → A4 → A5 → A6 → A7 → Option Out) (b : (A1 → A2 → A3 → A4 → A5 → A6 → A7 → Option Out) → Option Out) : lt7 k b = b k := rfl
theorem x_lt7 {A1 A2 A3 A4 A5 A6 A7 Out : Type} {κ : Kx Out} {pc q : Nat} {l0 : List (Nat × Value)} {s0 : List Value} {h0 : Hp} {k : A1 → A2 → A3 → A4 → A5 → A6 → A7 → Option Out} {b : (A1 → A2 → A3 → A4 → A5 → A6 → A7 → Option Out) → Option Out} (ls : A1 → A2 → A3 → A4 → A5 → A6 → A7 → List (Nat × Value)) (st : A1 → A2 → A3 → A4 → A5 → A6 → A7 → List Value) (hh : A1 → A2 → A3 → A4 → A5 → A6 → A7 → Hp)
    (J : ∀ a1 a2 a3 a4 a5 a6 a7, Xz κ (k a1 a2 a3 a4 a5 a6 a7) q (ls a1 a2 a3 a4 a5 a6 a7) (st a1 a2 a3 a4 a5 a6 a7) (hh a1 a2 a3 a4 a5 a6 a7)) (B : ∀ k : A1 → A2 → A3 → A4 → A5 → A6 → A7 → Option Out, (∀ a1 a2 a3 a4 a5 a6 a7, Xz κ (k a1 a2 a3 a4 a5 a6 a7) q (ls a1 a2 a3 a4 a5 a6 a7) (st a1 a2 a3 a4 a5 a6 a7) (hh a1 a2 a3 a4 a5 a6 a7)) → Xz κ (b k) pc l0 s0 h0) : Xz κ (lt7 k b) pc l0 s0 h0 := B k J
end
section
section ROWS
variable {Out : Type} {κ : Kx Out} {o : Option Out} {cc : ByteArray} {own : String} {n pc q : Nat} {ls : List (Nat × Value)} {st : List Value} {h : Hp}
theorem x_nm {α : Type} {e : α} {T : α → Option Out} (k : Xz κ (T e) pc ls st h) : Xz κ (nm e T) pc ls st h := k
theorem x_ni {e : Int32} {T : Int32 → Option Out} (k : ∀ x, Xz κ (T x) pc ls (.int x :: st) h) : Xz κ (nm e T) pc ls (.int e :: st) h := k e
theorem x_nl {e : Int64} {T : Int64 → Option Out} (k : ∀ x, Xz κ (T x) pc ls (.long x :: st) h) : Xz κ (nm e T) pc ls (.long e :: st) h := k e
theorem x_nh {e : Hp} {T : Hp → Option Out} (k : ∀ x, Xz κ (T x) pc ls st x) : Xz κ (nm e T) pc ls st e := k e
theorem x_ite {b : Prop} [Decidable b] {o1 o2 : Option Out} (k1 : b → Xz κ o1 pc ls st h) (k2 : ¬ b → Xz κ o2 pc ls st h) : Xz κ (if b then o1 else o2) pc ls st h := by
  by_cases hb : b
  · rw [if_pos hb]; exact k1 hb
  · rw [if_neg hb]; exact k2 hb
theorem x_cn {b : Prop} [Decidable b] (k : ¬ b → Xz κ o pc ls st h) : Xz κ (cn b o) pc ls st h := by
  unfold cn
  by_cases hb : b
  · rw [if_pos hb]; intro out ho; cases ho
  · rw [if_neg hb]; exact k hb
theorem x_cy {b : Prop} [Decidable b] (k : b → Xz κ o pc ls st h) : Xz κ (cy b o) pc ls st h := by
  unfold cy
  by_cases hb : b
  · rw [if_pos hb]; exact k hb
  · rw [if_neg hb]; intro out ho; cases ho
theorem x_ck {i : Int32} {N : Nat} (k : vp_in i N → Xz κ o pc ls st h) : Xz κ (ck i N o) pc ls st h := by
  unfold ck
  by_cases hb : ¬ (i < 0 ∨ N ≤ i.toNatClampNeg)
  · rw [if_pos hb]; exact k hb
  · rw [if_neg hb]; intro out ho; cases ho
theorem x_iconst (q : Nat) (C : Gd κ cc own n) {z : Int} {v : Int32} (d : decode cc pc = .ok (.iconst z, 1)) (hv : Int32.ofInt z = v) (hq : pc + 1 = q) (k : Xz κ o q ls (.int v :: st) h) : Xz κ o pc ls st h := by
  subst hq
  exact fun out ho H locs arr hP hS hl => lv_iconst C.x C.b d hv (k out ho H locs arr hP hS hl)
theorem x_bipush (q : Nat) (C : Gd κ cc own n) {z : Int} {v : Int32} (d : decode cc pc = .ok (.bipush z, 2)) (hv : (Int8.ofInt z).toInt32 = v) (hq : pc + 2 = q) (k : Xz κ o q ls (.int v :: st) h) : Xz κ o pc ls st h := by
  subst hq
  exact fun out ho H locs arr hP hS hl => lv_bipush C.x C.b d hv (k out ho H locs arr hP hS hl)
theorem x_sipush (q : Nat) (C : Gd κ cc own n) {z : Int} {v : Int32} (d : decode cc pc = .ok (.sipush z, 3)) (hv : (Int16.ofInt z).toInt32 = v) (hq : pc + 3 = q) (k : Xz κ o q ls (.int v :: st) h) : Xz κ o pc ls st h := by
  subst hq
  exact fun out ho H locs arr hP hS hl => lv_sipush C.x C.b d hv (k out ho H locs arr hP hS hl)
theorem x_lconst (q : Nat) (C : Gd κ cc own n) {z : Fin 2} {v : Int64} (d : decode cc pc = .ok (.lconst z, 1)) (hv : Int64.ofNat (z : Nat) = v) (hq : pc + 1 = q) (k : Xz κ o q ls (.long v :: st) h) : Xz κ o pc ls st h := by
  subst hq
  exact fun out ho H locs arr hP hS hl => lv_lconst C.x C.b d hv (k out ho H locs arr hP hS hl)
theorem x_ldc (q : Nat) (C : Gd κ cc own n) {i : Nat} {v : Int32} (d : decode cc pc = .ok (.ldc i, 2)) (hw : Cond.constant own i v ∈ tb2) (hq : pc + 2 = q) (k : Xz κ o q ls (.int v :: st) h) : Xz κ o pc ls st h := by
  subst hq
  exact fun out ho H locs arr hP hS hl => lv_ldc C.x C.b C.ow (C.ts _ hw) d (k out ho H locs arr hP hS hl)
theorem x_ldcw (q : Nat) (C : Gd κ cc own n) {i : Nat} {v : Int32} (d : decode cc pc = .ok (.ldc_w i, 3)) (hw : Cond.constant own i v ∈ tb2) (hq : pc + 3 = q) (k : Xz κ o q ls (.int v :: st) h) : Xz κ o pc ls st h := by
  subst hq
  exact fun out ho H locs arr hP hS hl => lv_ldcw C.x C.b C.ow (C.ts _ hw) d (k out ho H locs arr hP hS hl)
theorem x_ldc2 (q : Nat) (C : Gd κ cc own n) {i : Nat} {v : Int64} (d : decode cc pc = .ok (.ldc2_w i, 3)) (hw : Cond.constantLong own i v ∈ tb2) (hq : pc + 3 = q) (k : Xz κ o q ls (.long v :: st) h) : Xz κ o pc ls st h := by
  subst hq
  exact fun out ho H locs arr hP hS hl => lv_ldc2 C.x C.b C.ow (C.ts _ hw) d (k out ho H locs arr hP hS hl)
theorem lm_at {ad : Nat → Nat} {arr : Array Slot} {nL : Nat} {l : List (Nat × Value)} (hl : lv_has arr nL (l.map (mp ad))) (k : Nat) {i : Nat} {v : Value} (hk : l[k]? = some (i, v)) : arr[i]? = some (.val (mv ad v)) :=
  lv_at hl k (by rw [List.getElem?_map, hk]; rfl)
theorem x_iload_n (q : Nat) (C : Gd κ cc own n) {z : Fin 4} {i : Nat} {x : Int32} (d : decode cc pc = .ok (.iload_n z, 1)) (j : Nat) (hj : ls[j]? = some (i, .int x)) (hi : (z : Nat) = i) (hq : pc + 1 = q) (k : Xz κ o q ls (.int x :: st) h) : Xz κ o pc ls st h := by
  subst hq
  exact fun out ho H locs arr hP hS hl => lv_iload_n C.x C.b d hi (lm_at hl j hj) (k out ho H locs arr hP hS hl)
theorem x_iload (q : Nat) (C : Gd κ cc own n) {i : Nat} {x : Int32} (d : decode cc pc = .ok (.iload i, 2)) (j : Nat) (hj : ls[j]? = some (i, .int x)) (hq : pc + 2 = q) (k : Xz κ o q ls (.int x :: st) h) : Xz κ o pc ls st h := by
  subst hq
  exact fun out ho H locs arr hP hS hl => lv_iload C.x C.b d (lm_at hl j hj) (k out ho H locs arr hP hS hl)
theorem x_lload_n (q : Nat) (C : Gd κ cc own n) {z : Fin 4} {i : Nat} {x : Int64} (d : decode cc pc = .ok (.lload_n z, 1)) (j : Nat) (hj : ls[j]? = some (i, .long x)) (hi : (z : Nat) = i) (hq : pc + 1 = q) (k : Xz κ o q ls (.long x :: st) h) : Xz κ o pc ls st h := by
  subst hq
  exact fun out ho H locs arr hP hS hl => lv_lload_n C.x C.b d hi (lm_at hl j hj) (k out ho H locs arr hP hS hl)
theorem x_lload (q : Nat) (C : Gd κ cc own n) {i : Nat} {x : Int64} (d : decode cc pc = .ok (.lload i, 2)) (j : Nat) (hj : ls[j]? = some (i, .long x)) (hq : pc + 2 = q) (k : Xz κ o q ls (.long x :: st) h) : Xz κ o pc ls st h := by
  subst hq
  exact fun out ho H locs arr hP hS hl => lv_lload C.x C.b d (lm_at hl j hj) (k out ho H locs arr hP hS hl)
theorem x_aload_n (q : Nat) (C : Gd κ cc own n) {z : Fin 4} {i : Nat} {x : Nat} (d : decode cc pc = .ok (.aload_n z, 1)) (j : Nat) (hj : ls[j]? = some (i, .ref x)) (hi : (z : Nat) = i) (hq : pc + 1 = q) (k : Xz κ o q ls (.ref x :: st) h) : Xz κ o pc ls st h := by
  subst hq
  exact fun out ho H locs arr hP hS hl => lv_aload_n C.x C.b d hi (lm_at hl j hj) (k out ho H locs arr hP hS hl)
theorem x_aload (q : Nat) (C : Gd κ cc own n) {i : Nat} {x : Nat} (d : decode cc pc = .ok (.aload i, 2)) (j : Nat) (hj : ls[j]? = some (i, .ref x)) (hq : pc + 2 = q) (k : Xz κ o q ls (.ref x :: st) h) : Xz κ o pc ls st h := by
  subst hq
  exact fun out ho H locs arr hP hS hl => lv_aload C.x C.b d (lm_at hl j hj) (k out ho H locs arr hP hS hl)
def f1 (i : Nat) (q : Nat × Value) : Bool := !(q.1 == i) && !(q.1 + 1 == i && q.2.category == 2)
def f2 (i : Nat) (q : Nat × Value) : Bool := !(q.1 == i) && (!(q.1 == i + 1) && !(q.1 + 1 == i && q.2.category == 2))
theorem mp_f1 (ad : Nat → Nat) (i : Nat) (l : List (Nat × Value)) : (l.map (mp ad)).filter (f1 i) = (l.filter (f1 i)).map (mp ad) := by
  rw [List.filter_map]
  congr 1
  apply List.filter_congr
  intro q _
  simp [f1, mp, mv_cat, Function.comp]
theorem mp_f2 (ad : Nat → Nat) (i : Nat) (l : List (Nat × Value)) : (l.map (mp ad)).filter (f2 i) = (l.filter (f2 i)).map (mp ad) := by
  rw [List.filter_map]
  congr 1
  apply List.filter_congr
  intro q _
  simp [f2, mp, mv_cat, Function.comp]
theorem mp_s1 {ad : Nat → Nat} {i : Nat} {v : Value} {l l' : List (Nat × Value)} (hl : (i, v) :: l.filter (f1 i) = l') : (i, mv ad v) :: (l.map (mp ad)).filter (fun q => !(q.1 == i) && !(q.1 + 1 == i && q.2.category == 2)) = l'.map (mp ad) := by
  rw [← hl, List.map_cons, ← mp_f1]; rfl
theorem mp_s2 {ad : Nat → Nat} {i : Nat} {v : Value} {l l' : List (Nat × Value)} (hl : (i, v) :: l.filter (f2 i) = l') : (i, mv ad v) :: (l.map (mp ad)).filter (fun q => !(q.1 == i) && (!(q.1 == i + 1) && !(q.1 + 1 == i && q.2.category == 2))) = l'.map (mp ad) := by
  rw [← hl, List.map_cons, ← mp_f2]; rfl
theorem x_istore_n (q : Nat) (ls' : List (Nat × Value)) (C : Gd κ cc own n) {z : Fin 4} {i : Nat} {x : Int32} (d : decode cc pc = .ok (.istore_n z, 1)) (hn : i < kn κ) (hl' : (i, Value.int x) :: ls.filter (f1 i) = ls') (hi : (z : Nat) = i) (hq : pc + 1 = q) (k : Xz κ o q ls' st h) : Xz κ o pc ls (.int x :: st) h := by
  subst hq
  exact fun out ho H locs arr hP hS hl => lv_istore_n C.x C.b d hi hl hn (mp_s1 hl') (fun arr' hl2 => k out ho H locs arr' hP hS hl2)
theorem x_istore (q : Nat) (ls' : List (Nat × Value)) (C : Gd κ cc own n) {i : Nat} {x : Int32} (d : decode cc pc = .ok (.istore i, 2)) (hn : i < kn κ) (hl' : (i, Value.int x) :: ls.filter (f1 i) = ls') (hq : pc + 2 = q) (k : Xz κ o q ls' st h) : Xz κ o pc ls (.int x :: st) h := by
  subst hq
  exact fun out ho H locs arr hP hS hl => lv_istore C.x C.b d hl hn (mp_s1 hl') (fun arr' hl2 => k out ho H locs arr' hP hS hl2)
theorem x_lstore_n (q : Nat) (ls' : List (Nat × Value)) (C : Gd κ cc own n) {z : Fin 4} {i : Nat} {x : Int64} (d : decode cc pc = .ok (.lstore_n z, 1)) (hn : i + 1 < kn κ) (hl' : (i, Value.long x) :: ls.filter (f2 i) = ls') (hi : (z : Nat) = i) (hq : pc + 1 = q) (k : Xz κ o q ls' st h) : Xz κ o pc ls (.long x :: st) h := by
  subst hq
  exact fun out ho H locs arr hP hS hl => lv_lstore_n C.x C.b d hi hl hn (mp_s2 hl') (fun arr' hl2 => k out ho H locs arr' hP hS hl2)
theorem x_lstore (q : Nat) (ls' : List (Nat × Value)) (C : Gd κ cc own n) {i : Nat} {x : Int64} (d : decode cc pc = .ok (.lstore i, 2)) (hn : i + 1 < kn κ) (hl' : (i, Value.long x) :: ls.filter (f2 i) = ls') (hq : pc + 2 = q) (k : Xz κ o q ls' st h) : Xz κ o pc ls (.long x :: st) h := by
  subst hq
  exact fun out ho H locs arr hP hS hl => lv_lstore C.x C.b d hl hn (mp_s2 hl') (fun arr' hl2 => k out ho H locs arr' hP hS hl2)
theorem x_astore_n (q : Nat) (ls' : List (Nat × Value)) (C : Gd κ cc own n) {z : Fin 4} {i : Nat} {x : Nat} (d : decode cc pc = .ok (.astore_n z, 1)) (hn : i < kn κ) (hl' : (i, Value.ref x) :: ls.filter (f1 i) = ls') (hi : (z : Nat) = i) (hq : pc + 1 = q) (k : Xz κ o q ls' st h) : Xz κ o pc ls (.ref x :: st) h := by
  subst hq
  exact fun out ho H locs arr hP hS hl => lv_astore_n C.x C.b d hi hl hn (mp_s1 hl') (fun arr' hl2 => k out ho H locs arr' hP hS hl2)
theorem x_astore (q : Nat) (ls' : List (Nat × Value)) (C : Gd κ cc own n) {i : Nat} {x : Nat} (d : decode cc pc = .ok (.astore i, 2)) (hn : i < kn κ) (hl' : (i, Value.ref x) :: ls.filter (f1 i) = ls') (hq : pc + 2 = q) (k : Xz κ o q ls' st h) : Xz κ o pc ls (.ref x :: st) h := by
  subst hq
  exact fun out ho H locs arr hP hS hl => lv_astore C.x C.b d hl hn (mp_s1 hl') (fun arr' hl2 => k out ho H locs arr' hP hS hl2)
theorem x_iinc (q : Nat) (ls' : Int32 → List (Nat × Value)) (C : Gd κ cc own n) {i : Nat} {z : Int} {x v : Int32} {T : Int32 → Option Out} (d : decode cc pc = .ok (.iinc i z, 3)) (j : Nat) (hj : ls[j]? = some (i, .int x)) (hv : Int32.ofInt z = v) (hn : i < kn κ) (hl' : ∀ y, (i, Value.int y) :: ls.filter (f1 i) = ls' y) (hq : pc + 3 = q) (k : ∀ y, Xz κ (T y) q (ls' y) st h) : Xz κ (nm (x + v) T) pc ls st h := by
  subst hq
  exact fun out ho H locs arr hP hS hl => lv_iinc C.x C.b d hl (k := j) (by rw [List.getElem?_map, hj]; rfl) (by rw [hv]) hn (mp_s1 (hl' (x + v))) (fun arr' hl2 => k (x + v) out ho H locs arr' hP hS hl2)
theorem x_dup (q : Nat) (C : Gd κ cc own n) {v : Value} (d : decode cc pc = .ok (.dup, 1)) (hv : v.category = 1) (hq : pc + 1 = q) (k : Xz κ o q ls (v :: v :: st) h) : Xz κ o pc ls (v :: st) h := by
  subst hq
  exact fun out ho H locs arr hP hS hl => lv_dup C.x C.b d ((mv_cat _ _).trans hv) (k out ho H locs arr hP hS hl)
theorem x_pop (q : Nat) (C : Gd κ cc own n) {v : Value} (d : decode cc pc = .ok (.pop, 1)) (hv : v.category = 1) (hq : pc + 1 = q) (k : Xz κ o q ls st h) : Xz κ o pc ls (v :: st) h := by
  subst hq
  exact fun out ho H locs arr hP hS hl => lv_pop C.x C.b d ((mv_cat _ _).trans hv) (k out ho H locs arr hP hS hl)
theorem x_dup2 (q : Nat) (C : Gd κ cc own n) {v w : Value} (d : decode cc pc = .ok (.dup2, 1)) (hv : v.category = 1) (hw : w.category = 1) (hq : pc + 1 = q) (k : Xz κ o q ls (v :: w :: v :: w :: st) h) : Xz κ o pc ls (v :: w :: st) h := by
  subst hq
  exact fun out ho H locs arr hP hS hl => lv_dup2_11 C.x C.b d ((mv_cat _ _).trans hv) ((mv_cat _ _).trans hw) (k out ho H locs arr hP hS hl)
theorem x_goto (q : Nat) (C : Gd κ cc own n) {off : Int} (d : decode cc pc = .ok (.goto off, 3)) (hq : (pc : Int) + off = (q : Int)) (k : Xz κ o q ls st h) : Xz κ o pc ls st h :=
  fun out ho H locs arr hP hS hl => lv_goto C.x C.b d hq (k out ho H locs arr hP hS hl)
theorem x_iushr (q : Nat) (C : Gd κ cc own n) {x y : Int32} (d : decode cc pc = .ok (.iushr, 1)) (hq : pc + 1 = q) (k : Xz κ o q ls (.int (x.toUInt32 >>> (y.toUInt32 &&& Int32.toUInt32 31)).toInt32 :: st) h) : Xz κ o pc ls (.int y :: .int x :: st) h := by
  subst hq
  exact fun out ho H locs arr hP hS hl => lv_iushr C.x C.b d rfl (k out ho H locs arr hP hS hl)
theorem x_lshl (q : Nat) (C : Gd κ cc own n) {x : Int64} {y : Int32} (d : decode cc pc = .ok (.lshl, 1)) (hq : pc + 1 = q) (k : Xz κ o q ls (.long (x <<< (y.toInt64 &&& 63)) :: st) h) : Xz κ o pc ls (.int y :: .long x :: st) h := by
  subst hq
  exact fun out ho H locs arr hP hS hl => lv_lshl C.x C.b d rfl (k out ho H locs arr hP hS hl)
theorem x_lcmp (q : Nat) (C : Gd κ cc own n) {x y : Int64} (d : decode cc pc = .ok (.lcmp, 1)) (hq : pc + 1 = q) (k : Xz κ o q ls (.int (lg_cmp x y) :: st) h) : Xz κ o pc ls (.long y :: .long x :: st) h := by
  subst hq
  exact fun out ho H locs arr hP hS hl => W.lcmp C.x C.b d (k out ho H locs arr hP hS hl)
theorem x_iadd (q : Nat) (C : Gd κ cc own n) {x y : Int32} (d : decode cc pc = .ok (.iadd, 1)) (hq : pc + 1 = q) (k : Xz κ o q ls (.int (x + y) :: st) h) : Xz κ o pc ls (.int y :: .int x :: st) h := by
  subst hq
  exact fun out ho H locs arr hP hS hl => lv_iadd C.x C.b d (k out ho H locs arr hP hS hl)
theorem x_isub (q : Nat) (C : Gd κ cc own n) {x y : Int32} (d : decode cc pc = .ok (.isub, 1)) (hq : pc + 1 = q) (k : Xz κ o q ls (.int (x - y) :: st) h) : Xz κ o pc ls (.int y :: .int x :: st) h := by
  subst hq
  exact fun out ho H locs arr hP hS hl => lv_isub C.x C.b d (k out ho H locs arr hP hS hl)
theorem x_imul (q : Nat) (C : Gd κ cc own n) {x y : Int32} (d : decode cc pc = .ok (.imul, 1)) (hq : pc + 1 = q) (k : Xz κ o q ls (.int (x * y) :: st) h) : Xz κ o pc ls (.int y :: .int x :: st) h := by
  subst hq
  exact fun out ho H locs arr hP hS hl => lv_imul C.x C.b d (k out ho H locs arr hP hS hl)
theorem x_iand (q : Nat) (C : Gd κ cc own n) {x y : Int32} (d : decode cc pc = .ok (.iand, 1)) (hq : pc + 1 = q) (k : Xz κ o q ls (.int (x &&& y) :: st) h) : Xz κ o pc ls (.int y :: .int x :: st) h := by
  subst hq
  exact fun out ho H locs arr hP hS hl => lv_iand C.x C.b d (k out ho H locs arr hP hS hl)
theorem x_ior (q : Nat) (C : Gd κ cc own n) {x y : Int32} (d : decode cc pc = .ok (.ior, 1)) (hq : pc + 1 = q) (k : Xz κ o q ls (.int (x ||| y) :: st) h) : Xz κ o pc ls (.int y :: .int x :: st) h := by
  subst hq
  exact fun out ho H locs arr hP hS hl => lv_ior C.x C.b d (k out ho H locs arr hP hS hl)
theorem x_ixor (q : Nat) (C : Gd κ cc own n) {x y : Int32} (d : decode cc pc = .ok (.ixor, 1)) (hq : pc + 1 = q) (k : Xz κ o q ls (.int (x ^^^ y) :: st) h) : Xz κ o pc ls (.int y :: .int x :: st) h := by
  subst hq
  exact fun out ho H locs arr hP hS hl => lv_ixor C.x C.b d (k out ho H locs arr hP hS hl)
theorem x_ishl (q : Nat) (C : Gd κ cc own n) {x y : Int32} (d : decode cc pc = .ok (.ishl, 1)) (hq : pc + 1 = q) (k : Xz κ o q ls (.int (x <<< (y &&& 31)) :: st) h) : Xz κ o pc ls (.int y :: .int x :: st) h := by
  subst hq
  exact fun out ho H locs arr hP hS hl => lv_ishl C.x C.b d (k out ho H locs arr hP hS hl)
theorem x_ishr (q : Nat) (C : Gd κ cc own n) {x y : Int32} (d : decode cc pc = .ok (.ishr, 1)) (hq : pc + 1 = q) (k : Xz κ o q ls (.int (x >>> (y &&& 31)) :: st) h) : Xz κ o pc ls (.int y :: .int x :: st) h := by
  subst hq
  exact fun out ho H locs arr hP hS hl => lv_ishr C.x C.b d (k out ho H locs arr hP hS hl)
theorem x_idiv (q : Nat) (C : Gd κ cc own n) {x y : Int32} (d : decode cc pc = .ok (.idiv, 1)) (hy : ¬ y = 0) (hq : pc + 1 = q) (k : Xz κ o q ls (.int (x / y) :: st) h) : Xz κ o pc ls (.int y :: .int x :: st) h := by
  subst hq
  exact fun out ho H locs arr hP hS hl => lv_idiv C.x C.b d hy (k out ho H locs arr hP hS hl)
theorem x_irem (q : Nat) (C : Gd κ cc own n) {x y : Int32} (d : decode cc pc = .ok (.irem, 1)) (hy : ¬ y = 0) (hq : pc + 1 = q) (k : Xz κ o q ls (.int (x - x / y * y) :: st) h) : Xz κ o pc ls (.int y :: .int x :: st) h := by
  subst hq
  exact fun out ho H locs arr hP hS hl => lv_irem C.x C.b d hy (k out ho H locs arr hP hS hl)
theorem x_ladd (q : Nat) (C : Gd κ cc own n) {x y : Int64} (d : decode cc pc = .ok (.ladd, 1)) (hq : pc + 1 = q) (k : Xz κ o q ls (.long (x + y) :: st) h) : Xz κ o pc ls (.long y :: .long x :: st) h := by
  subst hq
  exact fun out ho H locs arr hP hS hl => lv_ladd C.x C.b d (k out ho H locs arr hP hS hl)
theorem x_lsub (q : Nat) (C : Gd κ cc own n) {x y : Int64} (d : decode cc pc = .ok (.lsub, 1)) (hq : pc + 1 = q) (k : Xz κ o q ls (.long (x - y) :: st) h) : Xz κ o pc ls (.long y :: .long x :: st) h := by
  subst hq
  exact fun out ho H locs arr hP hS hl => lv_lsub C.x C.b d (k out ho H locs arr hP hS hl)
theorem x_lmul (q : Nat) (C : Gd κ cc own n) {x y : Int64} (d : decode cc pc = .ok (.lmul, 1)) (hq : pc + 1 = q) (k : Xz κ o q ls (.long (x * y) :: st) h) : Xz κ o pc ls (.long y :: .long x :: st) h := by
  subst hq
  exact fun out ho H locs arr hP hS hl => lv_lmul C.x C.b d (k out ho H locs arr hP hS hl)
theorem x_lor (q : Nat) (C : Gd κ cc own n) {x y : Int64} (d : decode cc pc = .ok (.lor, 1)) (hq : pc + 1 = q) (k : Xz κ o q ls (.long (x ||| y) :: st) h) : Xz κ o pc ls (.long y :: .long x :: st) h := by
  subst hq
  exact fun out ho H locs arr hP hS hl => lv_lor C.x C.b d (k out ho H locs arr hP hS hl)
theorem x_ldiv (q : Nat) (C : Gd κ cc own n) {x y : Int64} (d : decode cc pc = .ok (.ldiv, 1)) (hy : ¬ y = 0) (hq : pc + 1 = q) (k : Xz κ o q ls (.long (x / y) :: st) h) : Xz κ o pc ls (.long y :: .long x :: st) h := by
  subst hq
  exact fun out ho H locs arr hP hS hl => lv_ldiv C.x C.b d hy (k out ho H locs arr hP hS hl)
theorem x_lrem (q : Nat) (C : Gd κ cc own n) {x y : Int64} (d : decode cc pc = .ok (.lrem, 1)) (hy : ¬ y = 0) (hq : pc + 1 = q) (k : Xz κ o q ls (.long (x - x / y * y) :: st) h) : Xz κ o pc ls (.long y :: .long x :: st) h := by
  subst hq
  exact fun out ho H locs arr hP hS hl => lv_lrem C.x C.b d hy (k out ho H locs arr hP hS hl)
theorem x_ineg (q : Nat) (C : Gd κ cc own n) {x : Int32} (d : decode cc pc = .ok (.ineg, 1)) (hq : pc + 1 = q) (k : Xz κ o q ls (.int (0 - x) :: st) h) : Xz κ o pc ls (.int x :: st) h := by
  subst hq
  exact fun out ho H locs arr hP hS hl => lv_ineg C.x C.b d (k out ho H locs arr hP hS hl)
theorem x_i2l (q : Nat) (C : Gd κ cc own n) {x : Int32} (d : decode cc pc = .ok (.i2l, 1)) (hq : pc + 1 = q) (k : Xz κ o q ls (.long (x.toInt64) :: st) h) : Xz κ o pc ls (.int x :: st) h := by
  subst hq
  exact fun out ho H locs arr hP hS hl => lv_i2l C.x C.b d rfl (k out ho H locs arr hP hS hl)
theorem x_i2b (q : Nat) (C : Gd κ cc own n) {x : Int32} (d : decode cc pc = .ok (.i2b, 1)) (hq : pc + 1 = q) (k : Xz κ o q ls (.int (x.toInt8.toInt32) :: st) h) : Xz κ o pc ls (.int x :: st) h := by
  subst hq
  exact fun out ho H locs arr hP hS hl => lv_i2b C.x C.b d rfl (k out ho H locs arr hP hS hl)
theorem x_i2s (q : Nat) (C : Gd κ cc own n) {x : Int32} (d : decode cc pc = .ok (.i2s, 1)) (hq : pc + 1 = q) (k : Xz κ o q ls (.int (x.toInt16.toInt32) :: st) h) : Xz κ o pc ls (.int x :: st) h := by
  subst hq
  exact fun out ho H locs arr hP hS hl => lv_i2s C.x C.b d rfl (k out ho H locs arr hP hS hl)
theorem x_icmp_eq (q tgt : Nat) (C : Gd κ cc own n) {x y : Int32} {o1 o2 : Option Out} {off : Int} (d : decode cc pc = .ok (.if_icmp .eq off, 3)) (ht : (pc : Int) + off = (tgt : Int)) (hq : pc + 3 = q) (k1 : x = y → Xz κ o1 tgt ls st h) (k2 : ¬ (x = y) → Xz κ o2 q ls st h) : Xz κ (if x = y then o1 else o2) pc ls (.int y :: .int x :: st) h := by
  subst hq
  refine fun out ho H locs arr hP hS hl => lv_icmp_eq C.x C.b d ht (fun hc => k1 hc out ?_ H locs arr hP hS hl) (fun hc => k2 hc out ?_ H locs arr hP hS hl)
  · rw [if_pos hc] at ho; exact ho
  · rw [if_neg hc] at ho; exact ho
theorem x_if_eq (q tgt : Nat) (C : Gd κ cc own n) {x : Int32} {o1 o2 : Option Out} {off : Int} (d : decode cc pc = .ok (.ifCond .eq off, 3)) (ht : (pc : Int) + off = (tgt : Int)) (hq : pc + 3 = q) (k1 : x = 0 → Xz κ o1 tgt ls st h) (k2 : ¬ (x = 0) → Xz κ o2 q ls st h) : Xz κ (if x = 0 then o1 else o2) pc ls (.int x :: st) h := by
  subst hq
  refine fun out ho H locs arr hP hS hl => lv_if_eq C.x C.b d ht (fun hc => k1 hc out ?_ H locs arr hP hS hl) (fun hc => k2 hc out ?_ H locs arr hP hS hl)
  · rw [if_pos hc] at ho; exact ho
  · rw [if_neg hc] at ho; exact ho
theorem x_icmp_lt (q tgt : Nat) (C : Gd κ cc own n) {x y : Int32} {o1 o2 : Option Out} {off : Int} (d : decode cc pc = .ok (.if_icmp .lt off, 3)) (ht : (pc : Int) + off = (tgt : Int)) (hq : pc + 3 = q) (k1 : x < y → Xz κ o1 tgt ls st h) (k2 : ¬ (x < y) → Xz κ o2 q ls st h) : Xz κ (if x < y then o1 else o2) pc ls (.int y :: .int x :: st) h := by
  subst hq
  refine fun out ho H locs arr hP hS hl => lv_icmp_lt C.x C.b d ht (fun hc => k1 hc out ?_ H locs arr hP hS hl) (fun hc => k2 hc out ?_ H locs arr hP hS hl)
  · rw [if_pos hc] at ho; exact ho
  · rw [if_neg hc] at ho; exact ho
theorem x_if_lt (q tgt : Nat) (C : Gd κ cc own n) {x : Int32} {o1 o2 : Option Out} {off : Int} (d : decode cc pc = .ok (.ifCond .lt off, 3)) (ht : (pc : Int) + off = (tgt : Int)) (hq : pc + 3 = q) (k1 : x < 0 → Xz κ o1 tgt ls st h) (k2 : ¬ (x < 0) → Xz κ o2 q ls st h) : Xz κ (if x < 0 then o1 else o2) pc ls (.int x :: st) h := by
  subst hq
  refine fun out ho H locs arr hP hS hl => lv_if_lt C.x C.b d ht (fun hc => k1 hc out ?_ H locs arr hP hS hl) (fun hc => k2 hc out ?_ H locs arr hP hS hl)
  · rw [if_pos hc] at ho; exact ho
  · rw [if_neg hc] at ho; exact ho
theorem x_icmp_ge (q tgt : Nat) (C : Gd κ cc own n) {x y : Int32} {o1 o2 : Option Out} {off : Int} (d : decode cc pc = .ok (.if_icmp .ge off, 3)) (ht : (pc : Int) + off = (tgt : Int)) (hq : pc + 3 = q) (k1 : y ≤ x → Xz κ o1 tgt ls st h) (k2 : ¬ (y ≤ x) → Xz κ o2 q ls st h) : Xz κ (if y ≤ x then o1 else o2) pc ls (.int y :: .int x :: st) h := by
  subst hq
  refine fun out ho H locs arr hP hS hl => lv_icmp_ge C.x C.b d ht (fun hc => k1 hc out ?_ H locs arr hP hS hl) (fun hc => k2 hc out ?_ H locs arr hP hS hl)
  · rw [if_pos hc] at ho; exact ho
  · rw [if_neg hc] at ho; exact ho
theorem x_if_ge (q tgt : Nat) (C : Gd κ cc own n) {x : Int32} {o1 o2 : Option Out} {off : Int} (d : decode cc pc = .ok (.ifCond .ge off, 3)) (ht : (pc : Int) + off = (tgt : Int)) (hq : pc + 3 = q) (k1 : 0 ≤ x → Xz κ o1 tgt ls st h) (k2 : ¬ (0 ≤ x) → Xz κ o2 q ls st h) : Xz κ (if 0 ≤ x then o1 else o2) pc ls (.int x :: st) h := by
  subst hq
  refine fun out ho H locs arr hP hS hl => lv_if_ge C.x C.b d ht (fun hc => k1 hc out ?_ H locs arr hP hS hl) (fun hc => k2 hc out ?_ H locs arr hP hS hl)
  · rw [if_pos hc] at ho; exact ho
  · rw [if_neg hc] at ho; exact ho
theorem x_icmp_gt (q tgt : Nat) (C : Gd κ cc own n) {x y : Int32} {o1 o2 : Option Out} {off : Int} (d : decode cc pc = .ok (.if_icmp .gt off, 3)) (ht : (pc : Int) + off = (tgt : Int)) (hq : pc + 3 = q) (k1 : y < x → Xz κ o1 tgt ls st h) (k2 : ¬ (y < x) → Xz κ o2 q ls st h) : Xz κ (if y < x then o1 else o2) pc ls (.int y :: .int x :: st) h := by
  subst hq
  refine fun out ho H locs arr hP hS hl => lv_icmp_gt C.x C.b d ht (fun hc => k1 hc out ?_ H locs arr hP hS hl) (fun hc => k2 hc out ?_ H locs arr hP hS hl)
  · rw [if_pos hc] at ho; exact ho
  · rw [if_neg hc] at ho; exact ho
theorem x_if_gt (q tgt : Nat) (C : Gd κ cc own n) {x : Int32} {o1 o2 : Option Out} {off : Int} (d : decode cc pc = .ok (.ifCond .gt off, 3)) (ht : (pc : Int) + off = (tgt : Int)) (hq : pc + 3 = q) (k1 : 0 < x → Xz κ o1 tgt ls st h) (k2 : ¬ (0 < x) → Xz κ o2 q ls st h) : Xz κ (if 0 < x then o1 else o2) pc ls (.int x :: st) h := by
  subst hq
  refine fun out ho H locs arr hP hS hl => lv_if_gt C.x C.b d ht (fun hc => k1 hc out ?_ H locs arr hP hS hl) (fun hc => k2 hc out ?_ H locs arr hP hS hl)
  · rw [if_pos hc] at ho; exact ho
  · rw [if_neg hc] at ho; exact ho
theorem x_icmp_le (q tgt : Nat) (C : Gd κ cc own n) {x y : Int32} {o1 o2 : Option Out} {off : Int} (d : decode cc pc = .ok (.if_icmp .le off, 3)) (ht : (pc : Int) + off = (tgt : Int)) (hq : pc + 3 = q) (k1 : x ≤ y → Xz κ o1 tgt ls st h) (k2 : ¬ (x ≤ y) → Xz κ o2 q ls st h) : Xz κ (if x ≤ y then o1 else o2) pc ls (.int y :: .int x :: st) h := by
  subst hq
  refine fun out ho H locs arr hP hS hl => lv_icmp_le C.x C.b d ht (fun hc => k1 hc out ?_ H locs arr hP hS hl) (fun hc => k2 hc out ?_ H locs arr hP hS hl)
  · rw [if_pos hc] at ho; exact ho
  · rw [if_neg hc] at ho; exact ho
theorem x_if_le (q tgt : Nat) (C : Gd κ cc own n) {x : Int32} {o1 o2 : Option Out} {off : Int} (d : decode cc pc = .ok (.ifCond .le off, 3)) (ht : (pc : Int) + off = (tgt : Int)) (hq : pc + 3 = q) (k1 : x ≤ 0 → Xz κ o1 tgt ls st h) (k2 : ¬ (x ≤ 0) → Xz κ o2 q ls st h) : Xz κ (if x ≤ 0 then o1 else o2) pc ls (.int x :: st) h := by
  subst hq
  refine fun out ho H locs arr hP hS hl => lv_if_le C.x C.b d ht (fun hc => k1 hc out ?_ H locs arr hP hS hl) (fun hc => k2 hc out ?_ H locs arr hP hS hl)
  · rw [if_pos hc] at ho; exact ho
  · rw [if_neg hc] at ho; exact ho
theorem x_icmp_ne (q tgt : Nat) (C : Gd κ cc own n) {x y : Int32} {o1 o2 : Option Out} {off : Int} (d : decode cc pc = .ok (.if_icmp .ne off, 3)) (ht : (pc : Int) + off = (tgt : Int)) (hq : pc + 3 = q) (k1 : ¬ (x = y) → Xz κ o1 tgt ls st h) (k2 : x = y → Xz κ o2 q ls st h) : Xz κ (if x = y then o2 else o1) pc ls (.int y :: .int x :: st) h := by
  subst hq
  refine fun out ho H locs arr hP hS hl => lv_icmp_ne C.x C.b d ht (fun hc => k1 hc out ?_ H locs arr hP hS hl) (fun hc => k2 hc out ?_ H locs arr hP hS hl)
  · rw [if_neg hc] at ho; exact ho
  · rw [if_pos hc] at ho; exact ho
theorem x_if_ne (q tgt : Nat) (C : Gd κ cc own n) {x : Int32} {o1 o2 : Option Out} {off : Int} (d : decode cc pc = .ok (.ifCond .ne off, 3)) (ht : (pc : Int) + off = (tgt : Int)) (hq : pc + 3 = q) (k1 : ¬ (x = 0) → Xz κ o1 tgt ls st h) (k2 : x = 0 → Xz κ o2 q ls st h) : Xz κ (if x = 0 then o2 else o1) pc ls (.int x :: st) h := by
  subst hq
  refine fun out ho H locs arr hP hS hl => lv_if_ne C.x C.b d ht (fun hc => k1 hc out ?_ H locs arr hP hS hl) (fun hc => k2 hc out ?_ H locs arr hP hS hl)
  · rw [if_neg hc] at ho; exact ho
  · rw [if_pos hc] at ho; exact ho
end ROWS
end
section
/-! fields, arrays, returns, calls -/
/-- a field's place, as an instruction of the class own links it by its index: class number ci, slot j -/
def FL (own : String) (idx ci j : Nat) : Prop := ∃ (C : String) (T : u_T) (N : Nat) (ty0 : Nat → FieldType), vwCl[ci]? = some (C, T, N) ∧ ci < 9 ∧ (∀ w ∈ u_ws C T N, w ∈ tb2) ∧ j < N ∧ nf ci = N ∧ (∀ k, k < N → parseFieldDescriptor (T k).2.2.1 = some (ty0 k)) ∧ (∀ a, a < N → ∀ b, b < N → a ≠ b → (T a).2.1 ≠ (T b).2.1) ∧ (Cond.fieldLink own idx (T j).1 (T j).2.1 (T j).2.2.1 ∈ tb2 ∨ ∃ host, Cond.fieldLinkNest own idx (T j).1 (T j).2.1 (T j).2.2.1 host ∈ tb2)
/-- and it may be written, as of the type ty -/
def FP (own : String) (idx ci j : Nat) (ty : FieldType) : Prop := ∃ (C : String) (T : u_T) (N : Nat) (ty0 : Nat → FieldType), vwCl[ci]? = some (C, T, N) ∧ ci < 9 ∧ (∀ w ∈ u_ws C T N, w ∈ tb2) ∧ j < N ∧ nf ci = N ∧ (∀ k, k < N → parseFieldDescriptor (T k).2.2.1 = some (ty0 k)) ∧ (∀ a, a < N → ∀ b, b < N → a ≠ b → (T a).2.1 ≠ (T b).2.1) ∧ (Cond.fieldLink own idx (T j).1 (T j).2.1 (T j).2.2.1 ∈ tb2 ∨ ∃ host, Cond.fieldLinkNest own idx (T j).1 (T j).2.1 (T j).2.2.1 host ∈ tb2) ∧ (T j).2.2.2 = false ∧ ty0 j = ty
section ROWS2
variable {Out : Type} {κ : Kx Out} {o : Option Out} {cc : ByteArray} {own : String} {n pc q : Nat} {ls : List (Nat × Value)} {st : List Value} {h : Hp}
theorem x_getv (C : Gd κ cc own n) {idx ci j k : Nat} (d : decode cc pc = .ok (.getfield idx, 3)) (F : FL own idx ci j) (hk : sk k = ci) {H : Heap} {locs : List Loc} {arr : Array Slot} {Q : State → Prop} {rest : List Value} (hP : va_P (kD κ) vwCl (wld (kad κ) (kcs κ) h) H) (kk : Wk κ Q H locs (F0 (km κ) (pc + 3) arr (fv (kad κ) h k j :: rest))) : Wk κ Q H locs (F0 (km κ) pc arr (.ref (kad κ k) :: rest)) := by
  obtain ⟨Cn, T, N, ty0, hc, hci, hin, hj, hN, hty, hnm, hl⟩ := F
  have hk9 : k < 93 := sk_lt hk (by omega)
  have he : (wld (kad κ) (kcs κ) h)[k]? = some (kad κ k, .inr (ci, (List.range (nf ci)).map (fv (kad κ) h k))) := by rw [wld_get hk9, ce_obj hk hci]
  have hv : ((List.range (nf ci)).map (fv (kad κ) h k))[j]? = some (fv (kad κ) h k j) := by
    rw [List.getElem?_map, List.getElem?_range (by omega)]; rfl
  rcases hl with hl | ⟨host, hl⟩
  · exact va_get C.x C.b C.ts hin C.ow C.K hP k he hc j hj (C.ts _ hl) (fun _ h9 => h9) hv d kk
  · exact va_getN C.x C.b C.ts hin C.ow C.K hP k he hc j hj (C.ts _ hl) (fun _ h9 => h9) hv d kk
theorem x_getI (q : Nat) (C : Gd κ cc own n) {idx ci j k : Nat} (d : decode cc pc = .ok (.getfield idx, 3)) (F : FL own idx ci j) (hk : sk k = ci) (hr : isR ci j = false) (hq : pc + 3 = q) (kk : Xz κ o q ls (.int (h.1 k j) :: st) h) : Xz κ o pc ls (.ref k :: st) h := by
  subst hq
  refine fun out ho H locs arr hP hS hl => x_getv C d F hk hP ?_
  have hv : fv (kad κ) h k j = .int (h.1 k j) := by unfold fv; rw [hk, hr]; rfl
  rw [hv]
  exact kk out ho H locs arr hP hS hl
theorem x_getR (q : Nat) (C : Gd κ cc own n) {idx ci j k c : Nat} (d : decode cc pc = .ok (.getfield idx, 3)) (F : FL own idx ci j) (hk : sk k = ci) (hr : isR ci j = true) (hc : sr k j = c) (hq : pc + 3 = q) (kk : Xz κ o q ls (.ref c :: st) h) : Xz κ o pc ls (.ref k :: st) h := by
  subst hq
  subst hc
  refine fun out ho H locs arr hP hS hl => x_getv C d F hk hP ?_
  have hv : fv (kad κ) h k j = .ref (kad κ (sr k j)) := by unfold fv; rw [hk, hr]; rfl
  rw [hv]
  exact kk out ho H locs arr hP hS hl
theorem x_put (q : Nat) (C : Gd κ cc own n) {idx ci j k : Nat} {ty : FieldType} {v : Int32} {T : Hp → Option Out} (d : decode cc pc = .ok (.putfield idx, 3)) (F : FP own idx ci j ty) (hk : sk k = ci) (hr : isR ci j = false) (hn : narrow ty (.int v) = .int v) (hf : fits ty (.int v) = true) (hq : pc + 3 = q) (kk : ∀ h', Xz κ (T h') q ls st h') : Xz κ (nm (uf h k j v) T) pc ls (.int v :: .ref k :: st) h := by
  subst hq
  intro out ho H locs arr hP hS hl
  obtain ⟨Cn, Tn, N, ty0, hc, hci, hin, hj, hN, hty, hnm, hlk, hfin, hty0⟩ := F
  have hk9 : k < 93 := sk_lt hk (by omega)
  have he : (wld (kad κ) (kcs κ) h)[k]? = some (kad κ k, .inr (ci, (List.range (nf ci)).map (fv (kad κ) h k))) := by rw [wld_get hk9, ce_obj hk hci]
  have hset : (wld (kad κ) (kcs κ) h).set k (kad κ k, .inr (ci, ((List.range (nf ci)).map (fv (kad κ) h k)).set j (.int v))) = wld (kad κ) (kcs κ) (uf h k j v) :=
    wld_set hk9 (by rw [ce_obj hk hci, set_fld hk (by omega) hr]) (fun a ha => ce_ext (uf_ne ha) rfl)
  have hd : parseFieldDescriptor (Tn j).2.2.1 = some ty := by rw [← hty0]; exact hty j hj
  have kf : ∀ (H1 : Heap) (locs1 : List Loc), va_P (kD κ) vwCl ((wld (kad κ) (kcs κ) h).set k (kad κ k, .inr (ci, ((List.range (nf ci)).map (fv (kad κ) h k)).set j (.int v)))) H1 → va_D (kA κ) ((wld (kad κ) (kcs κ) h).set k (kad κ k, .inr (ci, ((List.range (nf ci)).map (fv (kad κ) h k)).set j (.int v)))) → va_S (kA κ) (ks κ).heap H1 locs1 → Wk κ (kQ κ out) H1 locs1 (F0 (km κ) (pc + 3) arr (st.map (mv (kad κ)))) := by
    intro H1 locs1 hP1 _ hS1
    rw [hset] at hP1
    exact kk _ out ho H1 locs1 arr hP1 hS1 hl
  rcases hlk with hlk | ⟨host, hlk⟩
  · exact va_put C.x C.b C.ts hin ty0 hty hnm C.ow C.K hP (C.D h) hS k he hc j hj (C.ts _ hlk) (fun _ h9 => h9) hfin hd hn hf (by simp; omega) d kf
  · exact va_putN C.x C.b C.ts hin ty0 hty hnm C.ow C.K hP (C.D h) hS k he hc j hj (C.ts _ hlk) (fun _ h9 => h9) hfin hd hn hf (by simp; omega) d kf
theorem x_iald (q : Nat) (C : Gd κ cc own n) {k N : Nat} {i : Int32} (d : decode cc pc = .ok (.iaload, 1)) (hk : sk k = 9) (hN : sl k = N) (hq : pc + 1 = q) (kk : Xz κ o q ls (.int (ia h k i) :: st) h) : Xz κ (ck i N o) pc ls (.int i :: .ref k :: st) h := by
  subst hq
  subst hN
  refine x_ck fun hin out ho H locs arr hP hS hl => ?_
  have hk9 : k < 93 := sk_lt hk (by omega)
  exact va_iald C.x C.b C.K hP k 0 (by rw [wld_get hk9, ce_int hk]) rfl hin d (kk out ho H locs arr hP hS hl)
theorem x_ialc (q : Nat) (C : Gd κ cc own n) {k N j : Nat} {i : Int32} (d : decode cc pc = .ok (.iaload, 1)) (hk : sk k = 9) (hN : sl k = N) (hin : vp_in i N) (hj : i.toNatClampNeg = j) (hq : pc + 1 = q) (kk : Xz κ o q ls (.int (h.1 k j) :: st) h) : Xz κ o pc ls (.int i :: .ref k :: st) h := by
  subst hq
  subst hN
  subst hj
  refine fun out ho H locs arr hP hS hl => ?_
  have hk9 : k < 93 := sk_lt hk (by omega)
  exact va_iald C.x C.b C.K hP k 0 (by rw [wld_get hk9, ce_int hk]) rfl hin d (kk out ho H locs arr hP hS hl)
theorem x_lald (q : Nat) (C : Gd κ cc own n) {k N : Nat} {i : Int32} (d : decode cc pc = .ok (.laload, 1)) (hk : sk k = 10) (hN : sl k = N) (hq : pc + 1 = q) (kk : Xz κ o q ls (.long (la h k i) :: st) h) : Xz κ (ck i N o) pc ls (.int i :: .ref k :: st) h := by
  subst hq
  subst hN
  refine x_ck fun hin out ho H locs arr hP hS hl => ?_
  have hk9 : k < 93 := sk_lt hk (by omega)
  exact va_lald C.x C.b C.K hP k 1 (by rw [wld_get hk9, ce_long hk]) rfl hin d (kk out ho H locs arr hP hS hl)
theorem x_aald (q : Nat) (C : Gd κ cc own n) {i : Int32} (d : decode cc pc = .ok (.aaload, 1)) (hq : pc + 1 = q) (kk : vp_in i 4 → Xz κ o q ls (.ref (60 + 2 * i.toNatClampNeg) :: st) h) : Xz κ (ck i 4 o) pc ls (.int i :: .ref 59 :: st) h := by
  subst hq
  refine x_ck fun hin out ho H locs arr hP hS hl => ?_
  have hlt : i.toNatClampNeg < 4 := Nat.not_le.mp fun q => hin (Or.inr q)
  have hs : ∀ z, z < 4 → sr 59 z = 60 + 2 * z := by decide +kernel
  have he : (wld (kad κ) (kcs κ) h)[59]? = some (kad κ 59, .inl ((kcs κ).2.2, 4, .inr (.inr (.inr (.inr (fun i => some (kad κ (sr 59 i)))))))) := by
    rw [wld_get (by decide), ce_ref (by decide +kernel)]; rfl
  have k1 := kk hin out ho H locs arr hP hS hl
  rw [← hs _ hlt] at k1
  exact va_aldq C.x C.b C.K hP 59 2 he rfl hin d k1
theorem x_iast (q : Nat) (C : Gd κ cc own n) {k N : Nat} {i v : Int32} {T : Hp → Option Out} (d : decode cc pc = .ok (.iastore, 1)) (hk : sk k = 9) (hN : sl k = N) (hq : pc + 1 = q) (kk : ∀ h', Xz κ (T h') q ls st h') : Xz κ (ck i N (nm (ux h k i v) T)) pc ls (.int v :: .int i :: .ref k :: st) h := by
  subst hq
  subst hN
  refine x_ck fun hin out ho H locs arr hP hS hl => ?_
  have hk9 : k < 93 := sk_lt hk (by omega)
  have hset : (wld (kad κ) (kcs κ) h).set k (kad κ k, .inl ((kcs κ).1, sl k, .inl (upd (h.1 k) i.toNatClampNeg v))) = wld (kad κ) (kcs κ) (ux h k i v) :=
    wld_set hk9 (by rw [ce_int hk]; show _ = Sum.inl (_, _, Sum.inl ((uf h k i.toNatClampNeg v).1 k)); rw [uf_at]) (fun a ha => ce_ext (uf_ne ha) rfl)
  refine va_iast C.x C.b C.K hP (C.D h) hS k 0 (by rw [wld_get hk9, ce_int hk]) rfl hin d (fun H1 locs1 hP1 _ hS1 => ?_)
  rw [hset] at hP1
  exact kk _ out ho H1 locs1 arr hP1 hS1 hl
theorem x_last (q : Nat) (C : Gd κ cc own n) {k N : Nat} {i : Int32} {v : Int64} {T : Hp → Option Out} (d : decode cc pc = .ok (.lastore, 1)) (hk : sk k = 10) (hN : sl k = N) (hq : pc + 1 = q) (kk : ∀ h', Xz κ (T h') q ls st h') : Xz κ (ck i N (nm (uy h k i v) T)) pc ls (.long v :: .int i :: .ref k :: st) h := by
  subst hq
  subst hN
  refine x_ck fun hin out ho H locs arr hP hS hl => ?_
  have hk9 : k < 93 := sk_lt hk (by omega)
  have hset : (wld (kad κ) (kcs κ) h).set k (kad κ k, .inl ((kcs κ).2.1, sl k, .inr (.inl (vp_updL (h.2 k) i.toNatClampNeg v)))) = wld (kad κ) (kcs κ) (uy h k i v) :=
    wld_set hk9 (by rw [ce_long hk]; show _ = Sum.inl (_, _, Sum.inr (Sum.inl ((ul h k i.toNatClampNeg v).2 k))); rw [ul_at]) (fun a ha => ce_ext rfl (ul_ne ha))
  refine va_last C.x C.b C.K hP (C.D h) hS k 1 (by rw [wld_get hk9, ce_long hk]) rfl hin d (fun H1 locs1 hP1 _ hS1 => ?_)
  rw [hset] at hP1
  exact kk _ out ho H1 locs1 arr hP1 hS1 hl
theorem x_alen (q : Nat) (C : Gd κ cc own n) {k N : Nat} (d : decode cc pc = .ok (.arraylength, 1)) (hk : sk k = 9) (hN : sl k = N) (hq : pc + 1 = q) (kk : Xz κ o q ls (.int (nI N) :: st) h) : Xz κ o pc ls (.ref k :: st) h := by
  subst hq
  subst hN
  refine fun out ho H locs arr hP hS hl => ?_
  have hk9 : k < 93 := sk_lt hk (by omega)
  exact va_alen C.x C.b C.K hP k 0 (x := (sl k, .inl (h.1 k))) (by rw [wld_get hk9, ce_int hk]) rfl rfl d (kk out ho H locs arr hP hS hl)
/-! returns -/
def qE {Out : Type} (ad : Nat → Nat) (D : va_G) (cs : C3) (A : Nat → Prop) (enc : Out → Hp × Option Value) (out : Out) : Array Value → State → Outcome → State → Prop := fun _ s0 oc t => oc = .returned ((enc out).2.map (mv ad)) ∧ va_P D vwCl (wld ad cs (enc out).1) t.heap ∧ va_F A s0 t
def Ge {Out : Type} (κ : Kx Out) (enc : Out → Hp × Option Value) (ret : Option FieldType) : Prop := kQ κ = (fun out => MQ (kb κ) (qE (kad κ) (kD κ) (kcs κ) (kA κ) enc out) (ka κ) (ks κ) (kcl κ) (ksl κ) (kA κ)) ∧ (kme κ).sig.returnType = ret
def eI (o : Hp × Int32) : Hp × Option Value := (o.1, some (.int o.2))
def eL (o : Hp × Int64) : Hp × Option Value := (o.1, some (.long o.2))
def eR (o : Hp × Nat) : Hp × Option Value := (o.1, some (.ref o.2))
def eV (o : Hp) : Hp × Option Value := (o, none)
def rI (h : Hp) (o : Int32) : Hp × Option Value := (h, some (.int o))
def rL (h : Hp) (o : Int64) : Hp × Option Value := (h, some (.long o))
def rR (h : Hp) (o : Nat) : Hp × Option Value := (h, some (.ref o))
theorem x_iret (C : Gd κ cc own n) {enc : Out → Hp × Option Value} (E : Ge κ enc (some .int)) {v : Int32} {u : Out} (d : decode cc pc = .ok (.ireturn, 1)) (hu : enc u = (h, some (.int v))) : Xz κ (some u) pc ls [.int v] h := by
  intro out ho H locs arr hP hS hl
  cases ho
  rw [E.1]
  exact W.iret C.x C.b E.2 (fun t ht hW => ⟨by rw [hu]; rfl, by rw [hu, ht]; exact hP, hS.F ht⟩) hS.2.2 d C.lk
theorem x_zret (C : Gd κ cc own n) {enc : Out → Hp × Option Value} (E : Ge κ enc (some .boolean)) {v : Int32} {u : Out} (d : decode cc pc = .ok (.ireturn, 1)) (hv : v = 0 ∨ v = 1) (hu : enc u = (h, some (.int v))) : Xz κ (some u) pc ls [.int v] h := by
  intro out ho H locs arr hP hS hl
  cases ho
  rw [E.1]
  exact W.zret C.x C.b E.2 (by rcases hv with rfl | rfl <;> rfl) (fun t ht hW => ⟨by rw [hu]; rfl, by rw [hu, ht]; exact hP, hS.F ht⟩) hS.2.2 d C.lk
theorem x_zrc (C : Gd κ cc own n) {enc : Out → Hp × Option Value} (E : Ge κ enc (some .boolean)) {v : Int32} {u : Out} (d : decode cc pc = .ok (.ireturn, 1)) (hu : enc u = (h, some (.int v))) : Xz κ (cy (v = 0 ∨ v = 1) (some u)) pc ls [.int v] h :=
  x_cy fun hv => x_zret C E d hv hu
theorem x_lret (C : Gd κ cc own n) {enc : Out → Hp × Option Value} (E : Ge κ enc (some .long)) {v : Int64} {u : Out} (d : decode cc pc = .ok (.lreturn, 1)) (hu : enc u = (h, some (.long v))) : Xz κ (some u) pc ls [.long v] h := by
  intro out ho H locs arr hP hS hl
  cases ho
  rw [E.1]
  exact W.lret C.x C.b E.2 (fun t ht hW => ⟨by rw [hu]; rfl, by rw [hu, ht]; exact hP, hS.F ht⟩) hS.2.2 d C.lk
theorem x_aret (C : Gd κ cc own n) {enc : Out → Hp × Option Value} {cn : String} (E : Ge κ enc (some (.object cn))) {v : Nat} {u : Out} (d : decode cc pc = .ok (.areturn, 1)) (hu : enc u = (h, some (.ref v))) : Xz κ (some u) pc ls [.ref v] h := by
  intro out ho H locs arr hP hS hl
  cases ho
  rw [E.1]
  exact W.aret C.x C.b E.2 (Or.inl ⟨_, rfl⟩) (Or.inr ⟨_, rfl⟩) (fun t ht hW => ⟨by rw [hu]; rfl, by rw [hu, ht]; exact hP, hS.F ht⟩) hS.2.2 d C.lk
theorem x_vret (C : Gd κ cc own n) {enc : Out → Hp × Option Value} (E : Ge κ enc none) {u : Out} (d : decode cc pc = .ok (.return_, 1)) (hu : enc u = (h, none)) : Xz κ (some u) pc ls [] h := by
  intro out ho H locs arr hP hS hl
  cases ho
  rw [E.1]
  exact W.vret C.x C.b E.2 (fun t ht hW => ⟨by rw [hu]; rfl, by rw [hu, ht]; exact hP, hS.F ht⟩) hS.2.2 d C.lk
/-! switches -/
theorem x_tabO (tgt : Nat) (C : Gd κ cc own n) {dflt lo hi : Int} {offs : Array Int} {len : Nat} {x : Int32} (d : decode cc pc = .ok (.tableswitch dflt lo hi offs, len)) (hx : x.toInt < lo ∨ hi < x.toInt) (ht : (pc : Int) + dflt = (tgt : Int)) (k : Xz κ o tgt ls st h) : Xz κ o pc ls (.int x :: st) h :=
  fun out ho H locs arr hP hS hl => lv_tableOut C.x C.b d hx ht (k out ho H locs arr hP hS hl)
theorem x_tabI (tgt : Nat) (C : Gd κ cc own n) {dflt lo hi : Int} {offs : Array Int} {len : Nat} {x c : Int32} {off : Int} (d : decode cc pc = .ok (.tableswitch dflt lo hi offs, len)) (hx : x = c) (h1 : ¬ c.toInt < lo) (h2 : ¬ hi < c.toInt) (hof : offs[(c.toInt - lo).toNat]? = some off) (ht : (pc : Int) + off = (tgt : Int)) (k : Xz κ o tgt ls st h) : Xz κ o pc ls (.int x :: st) h := by
  subst hx
  exact fun out ho H locs arr hP hS hl => lv_tableIn C.x C.b d h1 h2 hof ht (k out ho H locs arr hP hS hl)
theorem x_lkp (tgt : Nat) (C : Gd κ cc own n) {dflt : Int} {ps : Array (Int × Int)} {len : Nat} {x : Int32} {off : Int} (d : decode cc pc = .ok (.lookupswitch dflt ps, len)) (hp : (ps.toList.zip (ps.toList.drop 1)).all (fun (a, next) => a.1 < next.1) = true) (hof : Op.lookupswitch.offset ps.toList dflt x.toInt = off) (ht : (pc : Int) + off = (tgt : Int)) (k : Xz κ o tgt ls st h) : Xz κ o pc ls (.int x :: st) h :=
  fun out ho H locs arr hP hS hl => lv_lookup C.x C.b d hp hof ht (k out ho H locs arr hP hS hl)
/-! Math, arraycopy -/
def jmax (x y : Int32) : Int32 := if x < y then y else x
def jmin (x y : Int32) : Int32 := if y < x then y else x
def jabs (x : Int32) : Int32 := if 0 ≤ x then x else 0 - x
theorem mc_sum {ad : Nat → Nat} (l : List Value) : ((l.map (mv ad)).map fun v => v.category) = l.map fun v => v.category := by
  rw [List.map_map]; apply List.map_congr_left; intro v _; exact mv_cat _ _
theorem x_mmax (q : Nat) (C : Gd κ cc own n) {idx : Nat} {x y : Int32} (d : decode cc pc = .ok (.invokestatic idx, 3)) (w1 : Cond.methodLink own idx Lib.Math.max.name ∈ tb2) (w2 : Cond.static Lib.Math.max.name ∈ tb2) (w3 : Cond.initialized "java/lang/Math" ∈ tb2) (w4 : Cond.code Lib.Math.max.name Lib.Math.max.code 2 (some .int) ∈ tb2) (hn : 1 ≤ n) (hs : (st.map fun v => v.category).sum ≤ 8) (hq : pc + 3 = q) (k : Xz κ o q ls (.int (jmax x y) :: st) h) : Xz κ o pc ls (.int y :: .int x :: st) h := by
  subst hq
  refine fun out ho H locs arr hP hS hl => va_mmax C.x C.b (by rw [C.ml, hl.1]) C.ow (C.ts _ w1) (C.ts _ w2) (C.ts _ w3) (C.ts _ w4) (Nat.le_trans hn C.fr) (by rw [mc_sum]; have := C.lo; omega) C.cl C.sl d (k out ho H locs arr hP hS hl)
theorem x_mmin (q : Nat) (C : Gd κ cc own n) {idx : Nat} {x y : Int32} (d : decode cc pc = .ok (.invokestatic idx, 3)) (w1 : Cond.methodLink own idx Lib.Math.min.name ∈ tb2) (w2 : Cond.static Lib.Math.min.name ∈ tb2) (w3 : Cond.initialized "java/lang/Math" ∈ tb2) (w4 : Cond.code Lib.Math.min.name Lib.Math.min.code 2 (some .int) ∈ tb2) (hn : 1 ≤ n) (hs : (st.map fun v => v.category).sum ≤ 8) (hq : pc + 3 = q) (k : Xz κ o q ls (.int (jmin x y) :: st) h) : Xz κ o pc ls (.int y :: .int x :: st) h := by
  subst hq
  refine fun out ho H locs arr hP hS hl => va_mmin C.x C.b (by rw [C.ml, hl.1]) C.ow (C.ts _ w1) (C.ts _ w2) (C.ts _ w3) (C.ts _ w4) (Nat.le_trans hn C.fr) (by rw [mc_sum]; have := C.lo; omega) C.cl C.sl d (k out ho H locs arr hP hS hl)
theorem x_mabs (q : Nat) (C : Gd κ cc own n) {idx : Nat} {x : Int32} (d : decode cc pc = .ok (.invokestatic idx, 3)) (w1 : Cond.methodLink own idx Lib.Math.abs.name ∈ tb2) (w2 : Cond.static Lib.Math.abs.name ∈ tb2) (w3 : Cond.initialized "java/lang/Math" ∈ tb2) (w4 : Cond.code Lib.Math.abs.name Lib.Math.abs.code 1 (some .int) ∈ tb2) (hn : 1 ≤ n) (hs : (st.map fun v => v.category).sum ≤ 8) (hq : pc + 3 = q) (k : Xz κ o q ls (.int (jabs x) :: st) h) : Xz κ o pc ls (.int x :: st) h := by
  subst hq
  refine fun out ho H locs arr hP hS hl => va_mabs C.x C.b (by rw [C.ml, hl.1]) C.ow (C.ts _ w1) (C.ts _ w2) (C.ts _ w3) (C.ts _ w4) (Nat.le_trans hn C.fr) (by rw [mc_sum]; have := C.lo; omega) C.cl C.sl d (k out ho H locs arr hP hS hl)
theorem x_acp (q : Nat) (C : Gd κ cc own n) {idx a b : Nat} {N : Nat} {i j m : Int32} {T : Hp → Option Out} (d : decode cc pc = .ok (.invokestatic idx, 3)) (w1 : Cond.methodLink own idx arraycopyName ∈ tb2) (w2 : Cond.native arraycopyName ∈ tb2) (w3 : Cond.static arraycopyName ∈ tb2) (w4 : Cond.initialized "java/lang/System" ∈ tb2) (hn : 1 ≤ n) (ha : sk a = 9) (hb : sk b = 9) (hNa : sl a = N) (hNb : sl b = N) (hs : (st.map fun v => v.category).sum ≤ 4) (hq : pc + 3 = q) (k : ∀ h', Xz κ (T h') q ls st h') :
    Xz κ (cy (¬ i < 0 ∧ ¬ j < 0 ∧ ¬ m < 0 ∧ i.toNatClampNeg + m.toNatClampNeg ≤ N ∧ j.toNatClampNeg + m.toNatClampNeg ≤ N) (nm (ucp h a b i j m) T)) pc ls (.int m :: .int j :: .ref b :: .int i :: .ref a :: st) h := by
  subst hq
  subst hNa
  refine x_cy fun hc out ho H locs arr hP hS hl => ?_
  obtain ⟨h1, h2, h3, h4, h5⟩ := hc
  have ha9 : a < 93 := sk_lt ha (by omega)
  have hb9 : b < 93 := sk_lt hb (by omega)
  have hset : (wld (kad κ) (kcs κ) h).set b (kad κ b, .inl ((kcs κ).1, sl b, .inl (va_cpy (h.1 a) (h.1 b) i.toNatClampNeg j.toNatClampNeg m.toNatClampNeg))) = wld (kad κ) (kcs κ) (ucp h a b i j m) :=
    wld_set hb9 (by rw [ce_int hb]; simp [ucp]) (fun z hz => ce_ext (by simp [ucp, hz]) rfl)
  refine va_copyi C.x C.b (by rw [C.ml, hl.1]) C.ow (C.ts _ w1) (C.ts _ w2) (C.ts _ w3) (C.ts _ w4) C.K hP (C.D h) hS a b 0 0 (ty := .int) (by rw [wld_get ha9, ce_int ha]) (by rw [wld_get hb9, ce_int hb]) rfl rfl rfl h1 h2 h3 h4 (by rw [hNb]; exact h5) (fun _ _ => rfl) (Nat.le_trans hn C.fr) ?_ d (fun H1 locs1 hP1 _ hS1 => ?_)
  · rw [mc_sum]
    have hw : nativeFrameWords "java/lang/System" "arraycopy" 5 + 11 ≤ 36 := by decide +kernel
    have := C.lo
    omega
  · rw [hset] at hP1
    exact k _ out ho H1 locs1 arr hP1 hS1 hl
end ROWS2
end
section
/-! calls: a method's contract over the whole world -/
theorem tbl_ok : tb2.all (fun w => (w.onTables && w.keeps) || isNest w || isAC w || isAO w) = true := List.all_eq_true.mpr fun w hw => (List.mem_filter.mp hw).2
def TB (U : State) : Prop := ∀ w ∈ tb2, va_Nw w U
theorem tb_warm {args : Array Value} {s U : State} (hW : s.WarmedH U.vm) (ht : ∀ w ∈ tb2, w.before args s = true) : TB U := by
  intro w hw
  have h0 := ht w hw
  have h1 := List.all_eq_true.mp tbl_ok w hw
  simp only [Bool.or_eq_true] at h1
  rcases h1 with ((h1 | h1) | h1) | h1
  · exact word_at hW (Or.inl h1) h0
  · unfold isNest at h1
    split at h1
    · exact va_Nw.warmF hW (va_Nw.of rfl h0)
    · exact va_Nw.warmM hW (va_Nw.of rfl h0)
    · cases h1
  · unfold isAC at h1
    split at h1
    · exact word_at hW (Or.inr ⟨_, rfl⟩) h0
    · cases h1
  · unfold isAO at h1
    split at h1
    · exact va_AO.moved hW.alike (va_AO.of h0)
    · cases h1
theorem tb_use {args : Array Value} {U : State} (ht : TB U) : ∀ w ∈ tb2, w.before args U = true := by
  intro w hw
  have h0 := ht w hw
  have h1 := List.all_eq_true.mp tbl_ok w hw
  simp only [Bool.or_eq_true] at h1
  rcases h1 with ((h1 | h1) | h1) | h1
  · exact word_at (State.WarmedH.refl U) (Or.inl h1) h0
  · unfold isNest at h1
    split at h1
    · exact va_Nw.use rfl h0
    · exact va_Nw.use rfl h0
    · cases h1
  · unfold isAC at h1
    split at h1
    · exact word_at (State.WarmedH.refl U) (Or.inr ⟨_, rfl⟩) h0
    · cases h1
  · unfold isAO at h1
    split at h1
    · exact va_AO.use h0
    · cases h1
theorem tb_move {U U' : State} (h : U'.vm = U.vm) (ht : TB U) : TB U' := tb_warm (s := U) (args := #[]) (by rw [h]; exact State.WarmedH.refl U) ht
def pcW (ad : Nat → Nat) (D : va_G) (cs : C3) (av : List Value) (h : Hp) : Array Value → State → Prop := fun a U => a = (av.map (mv ad)).toArray ∧ TB U ∧ va_K D vwCl (ty3 cs) U ∧ ij ad ∧ va_P D vwCl (wld ad cs h) U.heap
def rmL (lev : Nat) : Room := { frames := lev, cells := 0, slots := 0, locals := 40 * lev }
def idR (r : Hp × Option Value) : Hp × Option Value := r
def Ct (y : MethodName) (bytes : ByteArray) (nL : Nat) (ret : Option FieldType) (lev : Nat) (av : List Value) (h : Hp) (res : Hp × Option Value) : Prop :=
  ∀ (l : Launch) (ad : Nat → Nat) (D : va_G) (cs : C3), Met l y [.code y bytes nL ret] (rmL lev) (pcW ad D cs av h) (qE ad D cs (inW ad) idR res) 0 0 (inW ad)
theorem pcW_blind (ad : Nat → Nat) (D : va_G) (cs : C3) (av : List Value) (h : Hp) : FrameBlind (pcW ad D cs av h) := by
  intro a U g mk q
  obtain ⟨q1, q2, q3, q4, q5⟩ := q
  exact ⟨q1, tb_move (U := U) (U' := U.calling g mk a) rfl q2, va_K.moved (u := U) (U := U.calling g mk a) (Vm.Alike.refl U.vm) q3, q4, q5⟩
theorem la_map (ad : Nat → Nat) : ∀ (av : List Value) (i : Nat), lv_args i (av.map (mv ad)) = (lv_args i av).map (mp ad)
  | [], i => rfl
  | v :: vs, i => by
    simp only [List.map_cons, lv_args, mv_cat]
    rw [la_map ad vs]
    rfl
theorem sl_map (ad : Nat → Nat) : ∀ (av : List Value), (lg_sl (av.map (mv ad))).length = (lg_sl av).length
  | [] => rfl
  | v :: vs => by
    have := sl_map ad vs
    unfold lg_sl at this ⊢
    simp only [List.map_cons, List.flatMap_cons, List.length_append, mv_cat, this]
    split <;> rfl
/-- a method's contract out of its walk -/
theorem ct_of {Out : Type} (enc : Out → Hp × Option Value) {y : MethodName} {bytes : ByteArray} {nL lev : Nat} {ret : Option FieldType} {av : List Value} {h : Hp} {o : Option Out} {u : Out} (hu : o = some u) (hy : plainName y.cls = true) (hlen : (lg_sl av).length ≤ nL)
    (body : ∀ κ : Kx Out, kn κ = nL → Gd κ bytes y.cls lev → Ge κ enc ret → Xz κ o 0 (lv_args 0 av) [] h) : Ct y bytes nL ret lev av h (enc u) := by
  intro l ad D cs
  refine Met.ofW (cc := bytes) (maxL := nL) (ret := ret) hy rfl ?_
  intro p e s m args below meth c s₁ B hml hv
  obtain ⟨rfl, hTB, hK, hij, hP⟩ := hv
  have hown : s.vm.findClass y.cls = some m.cls := findClass_of_methodNamed B.named
  have hl := lv_entry (av.map (mv ad)) (n := nL) (by rw [sl_map]; exact hlen)
  rw [lg_entry_eq]
  rw [la_map] at hl
  have hb := body ((p, l, e, (headSpec [.code y bytes nL ret] (rmL lev)).room, s, m, (av.map (mv ad)).toArray, below, meth, c), ad, D, cs, inW ad, nL, 0, 0, fun out => MQ below (qE ad D cs (inW ad) enc out) (av.map (mv ad)).toArray s 0 0 (inW ad)) rfl
    ⟨B.exec, B.bytes, hml, hown, tb_use hTB, hK, hij, fun k hk => ⟨k, hk, rfl⟩, Nat.le_refl _, Nat.le_refl _, Nat.zero_le _, Nat.zero_le _, B.notSynchronized⟩ ⟨rfl, B.returns⟩
  exact hb u hu s.heap [] _ hP va_S.rf hl
section CALLS
variable {Out : Type} {κ : Kx Out} {o : Option Out} {cc : ByteArray} {own : String} {n pc q : Nat} {ls : List (Nat × Value)} {st : List Value} {h : Hp}
theorem x_ran {Oc : Type} (enc : Oc → Hp × Option Value) {oc : Option Oc} {T : Oc → Option Out} {stk rest : List Value} (C : Gd κ cc own n) (hq : pc + 3 = q) (ho : ∀ out, o = some out → ∃ u, oc = some u ∧ T u = some out)
    (run : ∀ u, oc = some u → ∀ (H : Heap) (locs : List Loc) (arr : Array Slot), va_P (kD κ) vwCl (wld (kad κ) (kcs κ) h) H → arr.size = kn κ → ∃ a : Array Value, va_Run (kp κ) (kl κ) (ke κ) (kR κ) (ks κ) (km κ) (ka κ) (kb κ) (kme κ) (kc κ) H locs (kcl κ) (ksl κ) 0 0 (F0 (km κ) pc arr (stk.map (mv (kad κ)))) (rest.map (mv (kad κ))) (qE (kad κ) (kD κ) (kcs κ) (inW (kad κ)) idR (enc u) a) (inW (kad κ)))
    (k : ∀ u, Xz κ (T u) q ls ((enc u).2.toList ++ rest) (enc u).1) : Xz κ o pc ls stk h := by
  subst hq
  intro out ho' H locs arr hP hS hl
  obtain ⟨u, hu, hT⟩ := ho out ho'
  obtain ⟨a, hr⟩ := run u hu H locs arr hP hl.1
  intro T0 hT0 X
  obtain ⟨v, st0, t, T', L, h0, X', hL, e1, e2, ⟨hv, hP1, hF⟩, go⟩ := hr T0 hT0 X
  cases hv
  have hS' : va_S (kA κ) (ks κ).heap T'.heap (locs ++ L) := by
    rw [e1]
    unfold va_F at hF
    rw [h0] at hF
    refine ⟨Nat.le_trans hS.1 hF.1, fun z h1 h2 => ?_, fun z hz => ?_⟩
    · rw [hF.2 z (Nat.lt_of_lt_of_le h1 hS.1) (fun ⟨w, w1, w2⟩ => h2 (by rw [w2]; exact C.A w w1))]
      exact hS.2.1 z h1 h2
    · rcases List.mem_append.mp hz with hz | hz
      · exact hS.2.2 z hz
      · obtain ⟨w, w1, w2⟩ := hL z hz
        rw [w2]
        exact C.A w w1
  have k1 := k u out hT T'.heap (locs ++ L) arr (by rw [e1]; exact hP1) hS' hl T' rfl X'
  obtain ⟨t2, a1, b1⟩ := k1
  refine ⟨t2, go t2 ?_, b1⟩
  have es : (Option.map (mv (kad κ)) (idR (enc u)).2).toList ++ rest.map (mv (kad κ)) = ((enc u).2.toList ++ rest).map (mv (kad κ)) := by
    unfold idR
    cases (enc u).2 <;> rfl
  rw [es]
  exact a1
/-- an instance method, as the class own calls it by its index -/
def CV (own : String) (idx ci : Nat) (y : MethodName) (bytes : ByteArray) (nL : Nat) (ret : Option FieldType) (m : Nat) : Prop :=
  (∃ (T : u_T) (N : Nat), vwCl[ci]? = some (y.cls, T, N)) ∧ ci < 9 ∧ (Cond.methodLink own idx y ∈ tb2 ∨ ∃ host, Cond.methodLinkNest own idx y host ∈ tb2) ∧ Cond.instanceMethod y ∈ tb2 ∧ Cond.selects y.cls y y ∈ tb2 ∧ Cond.initialized y.cls ∈ tb2 ∧ Cond.code y bytes nL ret ∈ tb2 ∧ (y.cls ≠ "java/lang/invoke/MethodHandle" ∧ y.cls ≠ "java/lang/invoke/VarHandle" ∧ (parseMethodDescriptor y.desc).map (fun d => d.parameters.length) = some m) ∧ nL ≤ 21
def CS (own : String) (idx : Nat) (y : MethodName) (bytes : ByteArray) (nL : Nat) (ret : Option FieldType) (m : Nat) : Prop :=
  (Cond.methodLink own idx y ∈ tb2 ∨ ∃ host, Cond.methodLinkNest own idx y host ∈ tb2) ∧ Cond.static y ∈ tb2 ∧ Cond.initialized y.cls ∈ tb2 ∧ Cond.code y bytes nL ret ∈ tb2 ∧ (y.cls ≠ "java/lang/invoke/MethodHandle" ∧ y.cls ≠ "java/lang/invoke/VarHandle" ∧ (parseMethodDescriptor y.desc).map (fun d => d.parameters.length) = some m) ∧ nL ≤ 21
theorem mc_len {y : MethodName} {m : Nat} (h2 : (parseMethodDescriptor y.desc).map (fun d => d.parameters.length) = some m) : ∀ sig, parseMethodDescriptor y.desc = some sig → m = sig.parameters.length := by
  intro sig hs
  rw [hs] at h2
  exact (Option.some.inj h2).symm
theorem run_v (C : Gd κ cc own n) {idx ci : Nat} {y : MethodName} {bytes : ByteArray} {nL lev m b : Nat} {ret : Option FieldType} {As rest : List Value} {res : Hp × Option Value} (V : CV own idx ci y bytes nL ret m) (hlev : lev + 1 ≤ n) (M : Ct y bytes nL ret lev (.ref b :: As) h res) (hb : sk b = ci) (hm : As.length = m) (hW : (rest.map fun v => v.category).sum ≤ 8) (d : decode cc pc = .ok (.invokevirtual idx, 3))
    {H : Heap} {locs : List Loc} {arr : Array Slot} (hP : va_P (kD κ) vwCl (wld (kad κ) (kcs κ) h) H) (hs : arr.size = kn κ) : va_Run (kp κ) (kl κ) (ke κ) (kR κ) (ks κ) (km κ) (ka κ) (kb κ) (kme κ) (kc κ) H locs (kcl κ) (ksl κ) 0 0 (F0 (km κ) pc arr ((As.reverse ++ .ref b :: rest).map (mv (kad κ)))) (rest.map (mv (kad κ))) (qE (kad κ) (kD κ) (kcs κ) (inW (kad κ)) idR res ((Value.ref b :: As).map (mv (kad κ))).toArray) (inW (kad κ)) := by
  obtain ⟨⟨T, N, hcl⟩, hci, hl, w1, w2, w3, w4, ⟨n1, n2, n3⟩, hnL⟩ := V
  have hb9 : b < 93 := sk_lt hb (by omega)
  have hstack : ((As.reverse ++ .ref b :: rest).map (mv (kad κ))) = (As.map (mv (kad κ))).reverse ++ .ref (kad κ b) :: rest.map (mv (kad κ)) := by
    rw [List.map_append, List.map_reverse]; rfl
  have hpre : PreV (ks κ) H y.cls (kad κ b) (pcW (kad κ) (kD κ) (kcs κ) (.ref b :: As) h) (As.map (mv (kad κ))) :=
    ⟨pcW_blind _ _ _ _ _, va_recv C.K hP hcl (he := by rw [wld_get hb9, ce_obj hb hci]), fun U hU hWm => ⟨rfl, tb_warm hWm C.ts, va_K.moved hWm.alike C.K, C.ij, by rw [hU]; exact hP⟩⟩
  have hcode : ∀ w ∈ [Cond.code y bytes nL ret], ∀ (a' : Array Value) (U : State), (ks κ).WarmedH U.vm → w.before a' U = true := by
    intro w hw a' U hWm
    rw [List.mem_singleton.mp hw]
    exact tb_use (tb_warm hWm C.ts) _ w4
  have hR : lev + 1 ≤ (kR κ).frames ∧ 8 + (nL + 11) + 40 * lev ≤ (kR κ).locals := by
    have := C.fr; have := C.lo; omega
  have hcat : 2 * (F0 (km κ) pc arr ((As.reverse ++ .ref b :: rest).map (mv (kad κ)))).monitorRoom + ((rest.map (mv (kad κ))).map fun v => v.category).sum ≤ 8 := lv_room (by rw [mc_sum]; exact hW)
  rcases hl with hl | ⟨host, hl⟩
  · exact va_runV (Ts := tb2) (own := own) (nL := kn κ) (As := As.map (mv (kad κ))) ⟨C.x, C.b, C.ml, C.ow, C.ts⟩ (M (kl κ) (kad κ) (kD κ) (kcs κ)) ⟨⟨rfl, rfl, hR.1, hR.2, hcode, List.mem_singleton.mpr rfl, C.ts _ w4, C.ts _ w3, ⟨n1, n2⟩, mc_len n3, C.ts _ hl⟩, C.ts _ w1, C.ts _ w2⟩ hpre rfl (by rw [List.length_map]; exact hm) hs hstack hcat d ⟨C.cl, C.sl⟩
  · exact va_runVN (Ts := tb2) (own := own) (nL := kn κ) (As := As.map (mv (kad κ))) ⟨C.x, C.b, C.ml, C.ow, C.ts⟩ (M (kl κ) (kad κ) (kD κ) (kcs κ)) ⟨⟨⟨rfl, rfl, hR.1, hR.2, hcode, List.mem_singleton.mpr rfl⟩, C.ts _ w4, C.ts _ w3, ⟨n1, n2⟩, mc_len n3, C.ts _ hl⟩, C.ts _ w1, C.ts _ w2⟩ hpre rfl (by rw [List.length_map]; exact hm) hs hstack hcat d ⟨C.cl, C.sl⟩
theorem run_s (C : Gd κ cc own n) {idx : Nat} {y : MethodName} {bytes : ByteArray} {nL lev m : Nat} {ret : Option FieldType} {As rest : List Value} {res : Hp × Option Value} (V : CS own idx y bytes nL ret m) (hlev : lev + 1 ≤ n) (M : Ct y bytes nL ret lev As h res) (hm : As.length = m) (hW : (rest.map fun v => v.category).sum ≤ 8) (d : decode cc pc = .ok (.invokestatic idx, 3))
    {H : Heap} {locs : List Loc} {arr : Array Slot} (hP : va_P (kD κ) vwCl (wld (kad κ) (kcs κ) h) H) (hs : arr.size = kn κ) : va_Run (kp κ) (kl κ) (ke κ) (kR κ) (ks κ) (km κ) (ka κ) (kb κ) (kme κ) (kc κ) H locs (kcl κ) (ksl κ) 0 0 (F0 (km κ) pc arr ((As.reverse ++ rest).map (mv (kad κ)))) (rest.map (mv (kad κ))) (qE (kad κ) (kD κ) (kcs κ) (inW (kad κ)) idR res (As.map (mv (kad κ))).toArray) (inW (kad κ)) := by
  obtain ⟨hl, w1, w3, w4, ⟨n1, n2, n3⟩, hnL⟩ := V
  have hstack : ((As.reverse ++ rest).map (mv (kad κ))) = (As.map (mv (kad κ))).reverse ++ rest.map (mv (kad κ)) := by
    rw [List.map_append, List.map_reverse]
  have hpre : PreS (ks κ) H (pcW (kad κ) (kD κ) (kcs κ) As h) (As.map (mv (kad κ))) :=
    ⟨pcW_blind _ _ _ _ _, fun U hU hWm => ⟨rfl, tb_warm hWm C.ts, va_K.moved hWm.alike C.K, C.ij, by rw [hU]; exact hP⟩⟩
  have hcode : ∀ w ∈ [Cond.code y bytes nL ret], ∀ (a' : Array Value) (U : State), (ks κ).WarmedH U.vm → w.before a' U = true := by
    intro w hw a' U hWm
    rw [List.mem_singleton.mp hw]
    exact tb_use (tb_warm hWm C.ts) _ w4
  have hR : lev + 1 ≤ (kR κ).frames ∧ 8 + (nL + 11) + 40 * lev ≤ (kR κ).locals := by
    have := C.fr; have := C.lo; omega
  have hcat : 2 * (F0 (km κ) pc arr ((As.reverse ++ rest).map (mv (kad κ)))).monitorRoom + ((rest.map (mv (kad κ))).map fun v => v.category).sum ≤ 8 := lv_room (by rw [mc_sum]; exact hW)
  rcases hl with hl | ⟨host, hl⟩
  · exact va_runS (Ts := tb2) (own := own) (nL := kn κ) (As := As.map (mv (kad κ))) ⟨C.x, C.b, C.ml, C.ow, C.ts⟩ (M (kl κ) (kad κ) (kD κ) (kcs κ)) ⟨⟨rfl, rfl, hR.1, hR.2, hcode, List.mem_singleton.mpr rfl, C.ts _ w4, C.ts _ w3, ⟨n1, n2⟩, mc_len n3, C.ts _ hl⟩, C.ts _ w1⟩ hpre rfl (by rw [List.length_map]; exact hm) hs hstack hcat d ⟨C.cl, C.sl⟩
  · exact va_runSN (Ts := tb2) (own := own) (nL := kn κ) (As := As.map (mv (kad κ))) ⟨C.x, C.b, C.ml, C.ow, C.ts⟩ (M (kl κ) (kad κ) (kD κ) (kcs κ)) ⟨⟨⟨rfl, rfl, hR.1, hR.2, hcode, List.mem_singleton.mpr rfl⟩, C.ts _ w4, C.ts _ w3, ⟨n1, n2⟩, mc_len n3, C.ts _ hl⟩, C.ts _ w1, trivial⟩ hpre rfl (by rw [List.length_map]; exact hm) hs hstack hcat d ⟨C.cl, C.sl⟩
theorem bnd_inv {α β : Type} {o : Option (Hp × α)} {T : Hp → α → Option β} {out : β} (e : bnd o T = some out) : ∃ u, o = some u ∧ T u.1 u.2 = some out := by
  cases o with
  | none => cases e
  | some u => exact ⟨u, rfl, e⟩
theorem bdv_inv {β : Type} {o : Option Hp} {T : Hp → Option β} {out : β} (e : bdv o T = some out) : ∃ u, o = some u ∧ T u = some out := by
  cases o with
  | none => cases e
  | some u => exact ⟨u, rfl, e⟩
theorem bdr_inv {α β : Type} {o : Option α} {T : α → Option β} {out : β} (e : bdr o T = some out) : ∃ u, o = some u ∧ T u = some out := by
  cases o with
  | none => cases e
  | some u => exact ⟨u, rfl, e⟩
theorem x_cvI (q : Nat) (As rest : List Value) (C : Gd κ cc own n) {idx ci : Nat} {y : MethodName} {bytes : ByteArray} {nL m b : Nat} (lev : Nat) {ret : Option FieldType} {stk : List Value} {oc : Option (Hp × Int32)} {T : Hp → Int32 → Option Out} (d : decode cc pc = .ok (.invokevirtual idx, 3)) (V : CV own idx ci y bytes nL ret m) (M : ∀ u, oc = some u → Ct y bytes nL ret lev (.ref b :: As) h (eI u)) (hst : stk = As.reverse ++ .ref b :: rest) (hb : sk b = ci) (hm : As.length = m) (hlev : lev + 1 ≤ n) (hW : (rest.map fun v => v.category).sum ≤ 8) (hq : pc + 3 = q) (k : ∀ h1 r, Xz κ (T h1 r) q ls (.int r :: rest) h1) : Xz κ (bnd oc T) pc ls stk h := by
  subst hst
  exact x_ran eI (T := fun u => T u.1 u.2) (rest := rest) C hq (fun out e => bnd_inv e) (fun u hu H locs arr hP hs => ⟨_, run_v C V hlev (M u hu) hb hm hW d hP hs⟩) (fun u => k u.1 u.2)
theorem x_csI (q : Nat) (As rest : List Value) (C : Gd κ cc own n) {idx : Nat} {y : MethodName} {bytes : ByteArray} {nL m : Nat} (lev : Nat) {ret : Option FieldType} {stk : List Value} {oc : Option (Hp × Int32)} {T : Hp → Int32 → Option Out} (d : decode cc pc = .ok (.invokestatic idx, 3)) (V : CS own idx y bytes nL ret m) (M : ∀ u, oc = some u → Ct y bytes nL ret lev As h (eI u)) (hst : stk = As.reverse ++ rest) (hm : As.length = m) (hlev : lev + 1 ≤ n) (hW : (rest.map fun v => v.category).sum ≤ 8) (hq : pc + 3 = q) (k : ∀ h1 r, Xz κ (T h1 r) q ls (.int r :: rest) h1) : Xz κ (bnd oc T) pc ls stk h := by
  subst hst
  exact x_ran eI (T := fun u => T u.1 u.2) (rest := rest) C hq (fun out e => bnd_inv e) (fun u hu H locs arr hP hs => ⟨_, run_s C V hlev (M u hu) hm hW d hP hs⟩) (fun u => k u.1 u.2)
theorem x_cvL (q : Nat) (As rest : List Value) (C : Gd κ cc own n) {idx ci : Nat} {y : MethodName} {bytes : ByteArray} {nL m b : Nat} (lev : Nat) {ret : Option FieldType} {stk : List Value} {oc : Option (Hp × Int64)} {T : Hp → Int64 → Option Out} (d : decode cc pc = .ok (.invokevirtual idx, 3)) (V : CV own idx ci y bytes nL ret m) (M : ∀ u, oc = some u → Ct y bytes nL ret lev (.ref b :: As) h (eL u)) (hst : stk = As.reverse ++ .ref b :: rest) (hb : sk b = ci) (hm : As.length = m) (hlev : lev + 1 ≤ n) (hW : (rest.map fun v => v.category).sum ≤ 8) (hq : pc + 3 = q) (k : ∀ h1 r, Xz κ (T h1 r) q ls (.long r :: rest) h1) : Xz κ (bnd oc T) pc ls stk h := by
  subst hst
  exact x_ran eL (T := fun u => T u.1 u.2) (rest := rest) C hq (fun out e => bnd_inv e) (fun u hu H locs arr hP hs => ⟨_, run_v C V hlev (M u hu) hb hm hW d hP hs⟩) (fun u => k u.1 u.2)
theorem x_csL (q : Nat) (As rest : List Value) (C : Gd κ cc own n) {idx : Nat} {y : MethodName} {bytes : ByteArray} {nL m : Nat} (lev : Nat) {ret : Option FieldType} {stk : List Value} {oc : Option (Hp × Int64)} {T : Hp → Int64 → Option Out} (d : decode cc pc = .ok (.invokestatic idx, 3)) (V : CS own idx y bytes nL ret m) (M : ∀ u, oc = some u → Ct y bytes nL ret lev As h (eL u)) (hst : stk = As.reverse ++ rest) (hm : As.length = m) (hlev : lev + 1 ≤ n) (hW : (rest.map fun v => v.category).sum ≤ 8) (hq : pc + 3 = q) (k : ∀ h1 r, Xz κ (T h1 r) q ls (.long r :: rest) h1) : Xz κ (bnd oc T) pc ls stk h := by
  subst hst
  exact x_ran eL (T := fun u => T u.1 u.2) (rest := rest) C hq (fun out e => bnd_inv e) (fun u hu H locs arr hP hs => ⟨_, run_s C V hlev (M u hu) hm hW d hP hs⟩) (fun u => k u.1 u.2)
theorem x_cvR (q : Nat) (As rest : List Value) (C : Gd κ cc own n) {idx ci : Nat} {y : MethodName} {bytes : ByteArray} {nL m b : Nat} (lev : Nat) {ret : Option FieldType} {stk : List Value} {oc : Option (Hp × Nat)} {T : Hp → Nat → Option Out} (d : decode cc pc = .ok (.invokevirtual idx, 3)) (V : CV own idx ci y bytes nL ret m) (M : ∀ u, oc = some u → Ct y bytes nL ret lev (.ref b :: As) h (eR u)) (hst : stk = As.reverse ++ .ref b :: rest) (hb : sk b = ci) (hm : As.length = m) (hlev : lev + 1 ≤ n) (hW : (rest.map fun v => v.category).sum ≤ 8) (hq : pc + 3 = q) (k : ∀ h1 r, Xz κ (T h1 r) q ls (.ref r :: rest) h1) : Xz κ (bnd oc T) pc ls stk h := by
  subst hst
  exact x_ran eR (T := fun u => T u.1 u.2) (rest := rest) C hq (fun out e => bnd_inv e) (fun u hu H locs arr hP hs => ⟨_, run_v C V hlev (M u hu) hb hm hW d hP hs⟩) (fun u => k u.1 u.2)
theorem x_csR (q : Nat) (As rest : List Value) (C : Gd κ cc own n) {idx : Nat} {y : MethodName} {bytes : ByteArray} {nL m : Nat} (lev : Nat) {ret : Option FieldType} {stk : List Value} {oc : Option (Hp × Nat)} {T : Hp → Nat → Option Out} (d : decode cc pc = .ok (.invokestatic idx, 3)) (V : CS own idx y bytes nL ret m) (M : ∀ u, oc = some u → Ct y bytes nL ret lev As h (eR u)) (hst : stk = As.reverse ++ rest) (hm : As.length = m) (hlev : lev + 1 ≤ n) (hW : (rest.map fun v => v.category).sum ≤ 8) (hq : pc + 3 = q) (k : ∀ h1 r, Xz κ (T h1 r) q ls (.ref r :: rest) h1) : Xz κ (bnd oc T) pc ls stk h := by
  subst hst
  exact x_ran eR (T := fun u => T u.1 u.2) (rest := rest) C hq (fun out e => bnd_inv e) (fun u hu H locs arr hP hs => ⟨_, run_s C V hlev (M u hu) hm hW d hP hs⟩) (fun u => k u.1 u.2)
theorem x_cvV (q : Nat) (As rest : List Value) (C : Gd κ cc own n) {idx ci : Nat} {y : MethodName} {bytes : ByteArray} {nL m b : Nat} (lev : Nat) {ret : Option FieldType} {stk : List Value} {oc : Option (Hp)} {T : Hp → Option Out} (d : decode cc pc = .ok (.invokevirtual idx, 3)) (V : CV own idx ci y bytes nL ret m) (M : ∀ u, oc = some u → Ct y bytes nL ret lev (.ref b :: As) h (eV u)) (hst : stk = As.reverse ++ .ref b :: rest) (hb : sk b = ci) (hm : As.length = m) (hlev : lev + 1 ≤ n) (hW : (rest.map fun v => v.category).sum ≤ 8) (hq : pc + 3 = q) (k : ∀ h1, Xz κ (T h1) q ls rest h1) : Xz κ (bdv oc T) pc ls stk h := by
  subst hst
  exact x_ran eV (T := T) (rest := rest) C hq (fun out e => bdv_inv e) (fun u hu H locs arr hP hs => ⟨_, run_v C V hlev (M u hu) hb hm hW d hP hs⟩) (fun u => k u)
theorem x_csV (q : Nat) (As rest : List Value) (C : Gd κ cc own n) {idx : Nat} {y : MethodName} {bytes : ByteArray} {nL m : Nat} (lev : Nat) {ret : Option FieldType} {stk : List Value} {oc : Option (Hp)} {T : Hp → Option Out} (d : decode cc pc = .ok (.invokestatic idx, 3)) (V : CS own idx y bytes nL ret m) (M : ∀ u, oc = some u → Ct y bytes nL ret lev As h (eV u)) (hst : stk = As.reverse ++ rest) (hm : As.length = m) (hlev : lev + 1 ≤ n) (hW : (rest.map fun v => v.category).sum ≤ 8) (hq : pc + 3 = q) (k : ∀ h1, Xz κ (T h1) q ls rest h1) : Xz κ (bdv oc T) pc ls stk h := by
  subst hst
  exact x_ran eV (T := T) (rest := rest) C hq (fun out e => bdv_inv e) (fun u hu H locs arr hP hs => ⟨_, run_s C V hlev (M u hu) hm hW d hP hs⟩) (fun u => k u)
theorem x_cvi (q : Nat) (As rest : List Value) (C : Gd κ cc own n) {idx ci : Nat} {y : MethodName} {bytes : ByteArray} {nL m b : Nat} (lev : Nat) {ret : Option FieldType} {stk : List Value} {oc : Option (Int32)} {T : Int32 → Option Out} (d : decode cc pc = .ok (.invokevirtual idx, 3)) (V : CV own idx ci y bytes nL ret m) (M : ∀ u, oc = some u → Ct y bytes nL ret lev (.ref b :: As) h ((rI h) u)) (hst : stk = As.reverse ++ .ref b :: rest) (hb : sk b = ci) (hm : As.length = m) (hlev : lev + 1 ≤ n) (hW : (rest.map fun v => v.category).sum ≤ 8) (hq : pc + 3 = q) (k : ∀ r, Xz κ (T r) q ls (.int r :: rest) h) : Xz κ (bdr oc T) pc ls stk h := by
  subst hst
  exact x_ran (rI h) (T := T) (rest := rest) C hq (fun out e => bdr_inv e) (fun u hu H locs arr hP hs => ⟨_, run_v C V hlev (M u hu) hb hm hW d hP hs⟩) (fun u => k u)
theorem x_csi (q : Nat) (As rest : List Value) (C : Gd κ cc own n) {idx : Nat} {y : MethodName} {bytes : ByteArray} {nL m : Nat} (lev : Nat) {ret : Option FieldType} {stk : List Value} {oc : Option (Int32)} {T : Int32 → Option Out} (d : decode cc pc = .ok (.invokestatic idx, 3)) (V : CS own idx y bytes nL ret m) (M : ∀ u, oc = some u → Ct y bytes nL ret lev As h ((rI h) u)) (hst : stk = As.reverse ++ rest) (hm : As.length = m) (hlev : lev + 1 ≤ n) (hW : (rest.map fun v => v.category).sum ≤ 8) (hq : pc + 3 = q) (k : ∀ r, Xz κ (T r) q ls (.int r :: rest) h) : Xz κ (bdr oc T) pc ls stk h := by
  subst hst
  exact x_ran (rI h) (T := T) (rest := rest) C hq (fun out e => bdr_inv e) (fun u hu H locs arr hP hs => ⟨_, run_s C V hlev (M u hu) hm hW d hP hs⟩) (fun u => k u)
theorem x_cvl (q : Nat) (As rest : List Value) (C : Gd κ cc own n) {idx ci : Nat} {y : MethodName} {bytes : ByteArray} {nL m b : Nat} (lev : Nat) {ret : Option FieldType} {stk : List Value} {oc : Option (Int64)} {T : Int64 → Option Out} (d : decode cc pc = .ok (.invokevirtual idx, 3)) (V : CV own idx ci y bytes nL ret m) (M : ∀ u, oc = some u → Ct y bytes nL ret lev (.ref b :: As) h ((rL h) u)) (hst : stk = As.reverse ++ .ref b :: rest) (hb : sk b = ci) (hm : As.length = m) (hlev : lev + 1 ≤ n) (hW : (rest.map fun v => v.category).sum ≤ 8) (hq : pc + 3 = q) (k : ∀ r, Xz κ (T r) q ls (.long r :: rest) h) : Xz κ (bdr oc T) pc ls stk h := by
  subst hst
  exact x_ran (rL h) (T := T) (rest := rest) C hq (fun out e => bdr_inv e) (fun u hu H locs arr hP hs => ⟨_, run_v C V hlev (M u hu) hb hm hW d hP hs⟩) (fun u => k u)
theorem x_csl (q : Nat) (As rest : List Value) (C : Gd κ cc own n) {idx : Nat} {y : MethodName} {bytes : ByteArray} {nL m : Nat} (lev : Nat) {ret : Option FieldType} {stk : List Value} {oc : Option (Int64)} {T : Int64 → Option Out} (d : decode cc pc = .ok (.invokestatic idx, 3)) (V : CS own idx y bytes nL ret m) (M : ∀ u, oc = some u → Ct y bytes nL ret lev As h ((rL h) u)) (hst : stk = As.reverse ++ rest) (hm : As.length = m) (hlev : lev + 1 ≤ n) (hW : (rest.map fun v => v.category).sum ≤ 8) (hq : pc + 3 = q) (k : ∀ r, Xz κ (T r) q ls (.long r :: rest) h) : Xz κ (bdr oc T) pc ls stk h := by
  subst hst
  exact x_ran (rL h) (T := T) (rest := rest) C hq (fun out e => bdr_inv e) (fun u hu H locs arr hP hs => ⟨_, run_s C V hlev (M u hu) hm hW d hP hs⟩) (fun u => k u)
theorem x_cvr (q : Nat) (As rest : List Value) (C : Gd κ cc own n) {idx ci : Nat} {y : MethodName} {bytes : ByteArray} {nL m b : Nat} (lev : Nat) {ret : Option FieldType} {stk : List Value} {oc : Option (Nat)} {T : Nat → Option Out} (d : decode cc pc = .ok (.invokevirtual idx, 3)) (V : CV own idx ci y bytes nL ret m) (M : ∀ u, oc = some u → Ct y bytes nL ret lev (.ref b :: As) h ((rR h) u)) (hst : stk = As.reverse ++ .ref b :: rest) (hb : sk b = ci) (hm : As.length = m) (hlev : lev + 1 ≤ n) (hW : (rest.map fun v => v.category).sum ≤ 8) (hq : pc + 3 = q) (k : ∀ r, Xz κ (T r) q ls (.ref r :: rest) h) : Xz κ (bdr oc T) pc ls stk h := by
  subst hst
  exact x_ran (rR h) (T := T) (rest := rest) C hq (fun out e => bdr_inv e) (fun u hu H locs arr hP hs => ⟨_, run_v C V hlev (M u hu) hb hm hW d hP hs⟩) (fun u => k u)
theorem x_csr (q : Nat) (As rest : List Value) (C : Gd κ cc own n) {idx : Nat} {y : MethodName} {bytes : ByteArray} {nL m : Nat} (lev : Nat) {ret : Option FieldType} {stk : List Value} {oc : Option (Nat)} {T : Nat → Option Out} (d : decode cc pc = .ok (.invokestatic idx, 3)) (V : CS own idx y bytes nL ret m) (M : ∀ u, oc = some u → Ct y bytes nL ret lev As h ((rR h) u)) (hst : stk = As.reverse ++ rest) (hm : As.length = m) (hlev : lev + 1 ≤ n) (hW : (rest.map fun v => v.category).sum ≤ 8) (hq : pc + 3 = q) (k : ∀ r, Xz κ (T r) q ls (.ref r :: rest) h) : Xz κ (bdr oc T) pc ls stk h := by
  subst hst
  exact x_ran (rR h) (T := T) (rest := rest) C hq (fun out e => bdr_inv e) (fun u hu H locs arr hP hs => ⟨_, run_s C V hlev (M u hu) hm hW d hP hs⟩) (fun u => k u)
end CALLS
end
