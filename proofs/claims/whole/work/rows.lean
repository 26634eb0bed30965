section
/-- a private method of a class that the tables say can be made, by its rows of tables_1 -/
def lw_okq (q : MethodName × Nat) : Prop := (q.1.cls ≠ "java/lang/invoke/MethodHandle" ∧ q.1.cls ≠ "java/lang/invoke/VarHandle") ∧ Cond.instantiable q.1.cls q.2 ∈ tables_1 ∧ Cond.privateMethod q.1 ∈ tables_1 ∧ Cond.instanceMethod q.1 ∈ tables_1
theorem lw_p0 : lw_okq (⟨"WireWalkers", "textOf", "(I)LWireWalkers$Text;"⟩, 16) := ⟨⟨by decide +kernel, by decide +kernel⟩, List.mem_of_getElem? (i := 14) (by decide +kernel), List.mem_of_getElem? (i := 304) (by decide +kernel), List.mem_of_getElem? (i := 305) (by decide +kernel)⟩
theorem lw_p1 : lw_okq (⟨"WireWalkers", "takeTexts", "()V"⟩, 16) := ⟨⟨by decide +kernel, by decide +kernel⟩, List.mem_of_getElem? (i := 14) (by decide +kernel), List.mem_of_getElem? (i := 316) (by decide +kernel), List.mem_of_getElem? (i := 317) (by decide +kernel)⟩
theorem lw_p2 : lw_okq (⟨"WireWalkers", "forgetShows", "()V"⟩, 16) := ⟨⟨by decide +kernel, by decide +kernel⟩, List.mem_of_getElem? (i := 14) (by decide +kernel), List.mem_of_getElem? (i := 356) (by decide +kernel), List.mem_of_getElem? (i := 357) (by decide +kernel)⟩
theorem lw_p3 : lw_okq (⟨"WireWalkers", "isWalker", "(I)Z"⟩, 16) := ⟨⟨by decide +kernel, by decide +kernel⟩, List.mem_of_getElem? (i := 14) (by decide +kernel), List.mem_of_getElem? (i := 378) (by decide +kernel), List.mem_of_getElem? (i := 379) (by decide +kernel)⟩
theorem lw_p4 : lw_okq (⟨"WireWalkers", "found", "(I)I"⟩, 16) := ⟨⟨by decide +kernel, by decide +kernel⟩, List.mem_of_getElem? (i := 14) (by decide +kernel), List.mem_of_getElem? (i := 421) (by decide +kernel), List.mem_of_getElem? (i := 422) (by decide +kernel)⟩
theorem lw_p5 : lw_okq (⟨"WireWalkers", "shown", "()LWireWalkers$Show;"⟩, 16) := ⟨⟨by decide +kernel, by decide +kernel⟩, List.mem_of_getElem? (i := 14) (by decide +kernel), List.mem_of_getElem? (i := 429) (by decide +kernel), List.mem_of_getElem? (i := 430) (by decide +kernel)⟩
theorem lw_p6 : lw_okq (⟨"WireWalkers$Show", "prepare", "(LWireWalkers$Told;I)V"⟩, 15) := ⟨⟨by decide +kernel, by decide +kernel⟩, List.mem_of_getElem? (i := 124) (by decide +kernel), List.mem_of_getElem? (i := 438) (by decide +kernel), List.mem_of_getElem? (i := 439) (by decide +kernel)⟩
theorem lw_p7 : lw_okq (⟨"WireWalkers$Weather", "add", "(III)V"⟩, 3) := ⟨⟨by decide +kernel, by decide +kernel⟩, List.mem_of_getElem? (i := 130) (by decide +kernel), List.mem_of_getElem? (i := 450) (by decide +kernel), List.mem_of_getElem? (i := 451) (by decide +kernel)⟩
theorem lw_p8 : lw_okq (⟨"WireWalkers$Show", "playBeat", "(LWireWalkers$Told;[III)V"⟩, 15) := ⟨⟨by decide +kernel, by decide +kernel⟩, List.mem_of_getElem? (i := 124) (by decide +kernel), List.mem_of_getElem? (i := 454) (by decide +kernel), List.mem_of_getElem? (i := 455) (by decide +kernel)⟩
theorem lw_p9 : lw_okq (⟨"WireWalkers$Show", "dropPoles", "(I)V"⟩, 15) := ⟨⟨by decide +kernel, by decide +kernel⟩, List.mem_of_getElem? (i := 124) (by decide +kernel), List.mem_of_getElem? (i := 459) (by decide +kernel), List.mem_of_getElem? (i := 460) (by decide +kernel)⟩
theorem lw_p10 : lw_okq (⟨"WireWalkers$Show", "perform", "(LWireWalkers$Told;IIII)V"⟩, 15) := ⟨⟨by decide +kernel, by decide +kernel⟩, List.mem_of_getElem? (i := 124) (by decide +kernel), List.mem_of_getElem? (i := 464) (by decide +kernel), List.mem_of_getElem? (i := 465) (by decide +kernel)⟩
theorem lw_p11 : lw_okq (⟨"WireWalkers$Show", "settle", "(LWireWalkers$Told;II)V"⟩, 15) := ⟨⟨by decide +kernel, by decide +kernel⟩, List.mem_of_getElem? (i := 124) (by decide +kernel), List.mem_of_getElem? (i := 474) (by decide +kernel), List.mem_of_getElem? (i := 475) (by decide +kernel)⟩
theorem lw_p12 : lw_okq (⟨"WireWalkers$Show", "startNext", "(LWireWalkers$Told;I)V"⟩, 15) := ⟨⟨by decide +kernel, by decide +kernel⟩, List.mem_of_getElem? (i := 124) (by decide +kernel), List.mem_of_getElem? (i := 479) (by decide +kernel), List.mem_of_getElem? (i := 480) (by decide +kernel)⟩
theorem lw_p13 : lw_okq (⟨"WireWalkers$Show", "noteBeat", "(III)V"⟩, 15) := ⟨⟨by decide +kernel, by decide +kernel⟩, List.mem_of_getElem? (i := 124) (by decide +kernel), List.mem_of_getElem? (i := 483) (by decide +kernel), List.mem_of_getElem? (i := 484) (by decide +kernel)⟩
theorem lw_p14 : lw_okq (⟨"WireWalkers", "firstOver", "()I"⟩, 16) := ⟨⟨by decide +kernel, by decide +kernel⟩, List.mem_of_getElem? (i := 14) (by decide +kernel), List.mem_of_getElem? (i := 537) (by decide +kernel), List.mem_of_getElem? (i := 538) (by decide +kernel)⟩
theorem lw_p15 : lw_okq (⟨"WireWalkers", "farthestLeaning", "()I"⟩, 16) := ⟨⟨by decide +kernel, by decide +kernel⟩, List.mem_of_getElem? (i := 14) (by decide +kernel), List.mem_of_getElem? (i := 541) (by decide +kernel), List.mem_of_getElem? (i := 542) (by decide +kernel)⟩
def lw_privs_1 : List (MethodName × Nat) := [(⟨"WireWalkers", "textOf", "(I)LWireWalkers$Text;"⟩, 16), (⟨"WireWalkers", "takeTexts", "()V"⟩, 16), (⟨"WireWalkers", "forgetShows", "()V"⟩, 16), (⟨"WireWalkers", "isWalker", "(I)Z"⟩, 16), (⟨"WireWalkers", "found", "(I)I"⟩, 16), (⟨"WireWalkers", "shown", "()LWireWalkers$Show;"⟩, 16), (⟨"WireWalkers$Show", "prepare", "(LWireWalkers$Told;I)V"⟩, 15), (⟨"WireWalkers$Weather", "add", "(III)V"⟩, 3), (⟨"WireWalkers$Show", "playBeat", "(LWireWalkers$Told;[III)V"⟩, 15), (⟨"WireWalkers$Show", "dropPoles", "(I)V"⟩, 15), (⟨"WireWalkers$Show", "perform", "(LWireWalkers$Told;IIII)V"⟩, 15), (⟨"WireWalkers$Show", "settle", "(LWireWalkers$Told;II)V"⟩, 15), (⟨"WireWalkers$Show", "startNext", "(LWireWalkers$Told;I)V"⟩, 15), (⟨"WireWalkers$Show", "noteBeat", "(III)V"⟩, 15), (⟨"WireWalkers", "firstOver", "()I"⟩, 16), (⟨"WireWalkers", "farthestLeaning", "()I"⟩, 16)]
theorem lw_r1 : ∀ q ∈ lw_privs_1, lw_okq q := List.forall_mem_cons.mpr ⟨lw_p0, List.forall_mem_cons.mpr ⟨lw_p1, List.forall_mem_cons.mpr ⟨lw_p2, List.forall_mem_cons.mpr ⟨lw_p3, List.forall_mem_cons.mpr ⟨lw_p4, List.forall_mem_cons.mpr ⟨lw_p5, List.forall_mem_cons.mpr ⟨lw_p6, List.forall_mem_cons.mpr ⟨lw_p7, List.forall_mem_cons.mpr ⟨lw_p8, List.forall_mem_cons.mpr ⟨lw_p9, List.forall_mem_cons.mpr ⟨lw_p10, List.forall_mem_cons.mpr ⟨lw_p11, List.forall_mem_cons.mpr ⟨lw_p12, List.forall_mem_cons.mpr ⟨lw_p13, List.forall_mem_cons.mpr ⟨lw_p14, List.forall_mem_cons.mpr ⟨lw_p15, fun _ h => absurd h List.not_mem_nil⟩⟩⟩⟩⟩⟩⟩⟩⟩⟩⟩⟩⟩⟩⟩⟩
theorem lw_p16 : lw_okq (⟨"WireWalkers", "chooseFor", "([III)V"⟩, 16) := ⟨⟨by decide +kernel, by decide +kernel⟩, List.mem_of_getElem? (i := 14) (by decide +kernel), List.mem_of_getElem? (i := 553) (by decide +kernel), List.mem_of_getElem? (i := 554) (by decide +kernel)⟩
theorem lw_p17 : lw_okq (⟨"WireWalkers", "spareFewest", "()I"⟩, 16) := ⟨⟨by decide +kernel, by decide +kernel⟩, List.mem_of_getElem? (i := 14) (by decide +kernel), List.mem_of_getElem? (i := 569) (by decide +kernel), List.mem_of_getElem? (i := 570) (by decide +kernel)⟩
theorem lw_p18 : lw_okq (⟨"WireWalkers", "nobodyFallsWithout", "(I)Z"⟩, 16) := ⟨⟨by decide +kernel, by decide +kernel⟩, List.mem_of_getElem? (i := 14) (by decide +kernel), List.mem_of_getElem? (i := 573) (by decide +kernel), List.mem_of_getElem? (i := 574) (by decide +kernel)⟩
theorem lw_p19 : lw_okq (⟨"WireWalkers", "fittingPoles", "(I)I"⟩, 16) := ⟨⟨by decide +kernel, by decide +kernel⟩, List.mem_of_getElem? (i := 14) (by decide +kernel), List.mem_of_getElem? (i := 606) (by decide +kernel), List.mem_of_getElem? (i := 607) (by decide +kernel)⟩
theorem lw_p20 : lw_okq (⟨"WireWalkers", "markPlaces", "(I)V"⟩, 16) := ⟨⟨by decide +kernel, by decide +kernel⟩, List.mem_of_getElem? (i := 14) (by decide +kernel), List.mem_of_getElem? (i := 610) (by decide +kernel), List.mem_of_getElem? (i := 611) (by decide +kernel)⟩
theorem lw_p21 : lw_okq (⟨"WireWalkers", "fittingSorts", "(I)I"⟩, 16) := ⟨⟨by decide +kernel, by decide +kernel⟩, List.mem_of_getElem? (i := 14) (by decide +kernel), List.mem_of_getElem? (i := 619) (by decide +kernel), List.mem_of_getElem? (i := 620) (by decide +kernel)⟩
theorem lw_p22 : lw_okq (⟨"WireWalkers", "mostAlike", "(II)I"⟩, 16) := ⟨⟨by decide +kernel, by decide +kernel⟩, List.mem_of_getElem? (i := 14) (by decide +kernel), List.mem_of_getElem? (i := 627) (by decide +kernel), List.mem_of_getElem? (i := 628) (by decide +kernel)⟩
theorem lw_p23 : lw_okq (⟨"WireWalkers", "markBehind", "(II)J"⟩, 16) := ⟨⟨by decide +kernel, by decide +kernel⟩, List.mem_of_getElem? (i := 14) (by decide +kernel), List.mem_of_getElem? (i := 631) (by decide +kernel), List.mem_of_getElem? (i := 632) (by decide +kernel)⟩
theorem lw_p24 : lw_okq (⟨"WireWalkers", "weighOdds", "()V"⟩, 16) := ⟨⟨by decide +kernel, by decide +kernel⟩, List.mem_of_getElem? (i := 14) (by decide +kernel), List.mem_of_getElem? (i := 641) (by decide +kernel), List.mem_of_getElem? (i := 642) (by decide +kernel)⟩
theorem lw_p25 : lw_okq (⟨"WireWalkers", "weightOf", "(II)J"⟩, 16) := ⟨⟨by decide +kernel, by decide +kernel⟩, List.mem_of_getElem? (i := 14) (by decide +kernel), List.mem_of_getElem? (i := 649) (by decide +kernel), List.mem_of_getElem? (i := 650) (by decide +kernel)⟩
theorem lw_p26 : lw_okq (⟨"WireWalkers$Sheet", "fitted", "(I)I"⟩, 4) := ⟨⟨by decide +kernel, by decide +kernel⟩, List.mem_of_getElem? (i := 224) (by decide +kernel), List.mem_of_getElem? (i := 688) (by decide +kernel), List.mem_of_getElem? (i := 689) (by decide +kernel)⟩
theorem lw_p27 : lw_okq (⟨"WireWalkers", "mixedWalk", "(JI)J"⟩, 16) := ⟨⟨by decide +kernel, by decide +kernel⟩, List.mem_of_getElem? (i := 14) (by decide +kernel), List.mem_of_getElem? (i := 730) (by decide +kernel), List.mem_of_getElem? (i := 731) (by decide +kernel)⟩
theorem lw_p28 : lw_okq (⟨"WireWalkers", "mixedBehind", "(JII)J"⟩, 16) := ⟨⟨by decide +kernel, by decide +kernel⟩, List.mem_of_getElem? (i := 14) (by decide +kernel), List.mem_of_getElem? (i := 735) (by decide +kernel), List.mem_of_getElem? (i := 736) (by decide +kernel)⟩
theorem lw_p29 : lw_okq (⟨"WireWalkers", "mixedPlans", "(JI)J"⟩, 16) := ⟨⟨by decide +kernel, by decide +kernel⟩, List.mem_of_getElem? (i := 14) (by decide +kernel), List.mem_of_getElem? (i := 742) (by decide +kernel), List.mem_of_getElem? (i := 743) (by decide +kernel)⟩
theorem lw_p30 : lw_okq (⟨"WireWalkers", "mixedBest", "(JI)J"⟩, 16) := ⟨⟨by decide +kernel, by decide +kernel⟩, List.mem_of_getElem? (i := 14) (by decide +kernel), List.mem_of_getElem? (i := 747) (by decide +kernel), List.mem_of_getElem? (i := 748) (by decide +kernel)⟩
theorem lw_p31 : lw_okq (⟨"WireWalkers", "mixedRest", "(J)J"⟩, 16) := ⟨⟨by decide +kernel, by decide +kernel⟩, List.mem_of_getElem? (i := 14) (by decide +kernel), List.mem_of_getElem? (i := 755) (by decide +kernel), List.mem_of_getElem? (i := 756) (by decide +kernel)⟩
def lw_privs_2 : List (MethodName × Nat) := [(⟨"WireWalkers", "chooseFor", "([III)V"⟩, 16), (⟨"WireWalkers", "spareFewest", "()I"⟩, 16), (⟨"WireWalkers", "nobodyFallsWithout", "(I)Z"⟩, 16), (⟨"WireWalkers", "fittingPoles", "(I)I"⟩, 16), (⟨"WireWalkers", "markPlaces", "(I)V"⟩, 16), (⟨"WireWalkers", "fittingSorts", "(I)I"⟩, 16), (⟨"WireWalkers", "mostAlike", "(II)I"⟩, 16), (⟨"WireWalkers", "markBehind", "(II)J"⟩, 16), (⟨"WireWalkers", "weighOdds", "()V"⟩, 16), (⟨"WireWalkers", "weightOf", "(II)J"⟩, 16), (⟨"WireWalkers$Sheet", "fitted", "(I)I"⟩, 4), (⟨"WireWalkers", "mixedWalk", "(JI)J"⟩, 16), (⟨"WireWalkers", "mixedBehind", "(JII)J"⟩, 16), (⟨"WireWalkers", "mixedPlans", "(JI)J"⟩, 16), (⟨"WireWalkers", "mixedBest", "(JI)J"⟩, 16), (⟨"WireWalkers", "mixedRest", "(J)J"⟩, 16)]
theorem lw_r2 : ∀ q ∈ lw_privs_2, lw_okq q := List.forall_mem_cons.mpr ⟨lw_p16, List.forall_mem_cons.mpr ⟨lw_p17, List.forall_mem_cons.mpr ⟨lw_p18, List.forall_mem_cons.mpr ⟨lw_p19, List.forall_mem_cons.mpr ⟨lw_p20, List.forall_mem_cons.mpr ⟨lw_p21, List.forall_mem_cons.mpr ⟨lw_p22, List.forall_mem_cons.mpr ⟨lw_p23, List.forall_mem_cons.mpr ⟨lw_p24, List.forall_mem_cons.mpr ⟨lw_p25, List.forall_mem_cons.mpr ⟨lw_p26, List.forall_mem_cons.mpr ⟨lw_p27, List.forall_mem_cons.mpr ⟨lw_p28, List.forall_mem_cons.mpr ⟨lw_p29, List.forall_mem_cons.mpr ⟨lw_p30, List.forall_mem_cons.mpr ⟨lw_p31, fun _ h => absurd h List.not_mem_nil⟩⟩⟩⟩⟩⟩⟩⟩⟩⟩⟩⟩⟩⟩⟩⟩
theorem lw_p32 : lw_okq (⟨"WireWalkersModel", "finds", "(I)I"⟩, 33) := ⟨⟨by decide +kernel, by decide +kernel⟩, List.mem_of_getElem? (i := 766) (by decide +kernel), List.mem_of_getElem? (i := 884) (by decide +kernel), List.mem_of_getElem? (i := 885) (by decide +kernel)⟩
theorem lw_p33 : lw_okq (⟨"WireWalkersModel", "lacks", "(III)I"⟩, 33) := ⟨⟨by decide +kernel, by decide +kernel⟩, List.mem_of_getElem? (i := 766) (by decide +kernel), List.mem_of_getElem? (i := 896) (by decide +kernel), List.mem_of_getElem? (i := 897) (by decide +kernel)⟩
theorem lw_p34 : lw_okq (⟨"WireWalkersModel", "readsText", "(I)I"⟩, 33) := ⟨⟨by decide +kernel, by decide +kernel⟩, List.mem_of_getElem? (i := 766) (by decide +kernel), List.mem_of_getElem? (i := 932) (by decide +kernel), List.mem_of_getElem? (i := 933) (by decide +kernel)⟩
theorem lw_p35 : lw_okq (⟨"WireWalkersModel", "readsWalkers", "()I"⟩, 33) := ⟨⟨by decide +kernel, by decide +kernel⟩, List.mem_of_getElem? (i := 766) (by decide +kernel), List.mem_of_getElem? (i := 936) (by decide +kernel), List.mem_of_getElem? (i := 937) (by decide +kernel)⟩
theorem lw_p36 : lw_okq (⟨"WireWalkersModel", "readsRoutine", "()I"⟩, 33) := ⟨⟨by decide +kernel, by decide +kernel⟩, List.mem_of_getElem? (i := 766) (by decide +kernel), List.mem_of_getElem? (i := 947) (by decide +kernel), List.mem_of_getElem? (i := 948) (by decide +kernel)⟩
theorem lw_p37 : lw_okq (⟨"WireWalkersModel", "plain", "()V"⟩, 33) := ⟨⟨by decide +kernel, by decide +kernel⟩, List.mem_of_getElem? (i := 766) (by decide +kernel), List.mem_of_getElem? (i := 951) (by decide +kernel), List.mem_of_getElem? (i := 952) (by decide +kernel)⟩
theorem lw_p38 : lw_okq (⟨"WireWalkersModel", "isWalker", "(I)Z"⟩, 33) := ⟨⟨by decide +kernel, by decide +kernel⟩, List.mem_of_getElem? (i := 766) (by decide +kernel), List.mem_of_getElem? (i := 959) (by decide +kernel), List.mem_of_getElem? (i := 960) (by decide +kernel)⟩
theorem lw_p39 : lw_okq (⟨"WireWalkersModel", "find", "()V"⟩, 33) := ⟨⟨by decide +kernel, by decide +kernel⟩, List.mem_of_getElem? (i := 766) (by decide +kernel), List.mem_of_getElem? (i := 999) (by decide +kernel), List.mem_of_getElem? (i := 1000) (by decide +kernel)⟩
theorem lw_p40 : lw_okq (⟨"WireWalkersModel", "lives", "()V"⟩, 33) := ⟨⟨by decide +kernel, by decide +kernel⟩, List.mem_of_getElem? (i := 766) (by decide +kernel), List.mem_of_getElem? (i := 1003) (by decide +kernel), List.mem_of_getElem? (i := 1004) (by decide +kernel)⟩
theorem lw_p41 : lw_okq (⟨"WireWalkersModel", "passes", "(IZ)V"⟩, 33) := ⟨⟨by decide +kernel, by decide +kernel⟩, List.mem_of_getElem? (i := 766) (by decide +kernel), List.mem_of_getElem? (i := 1007) (by decide +kernel), List.mem_of_getElem? (i := 1008) (by decide +kernel)⟩
theorem lw_p42 : lw_okq (⟨"WireWalkersModel", "happens", "(I)V"⟩, 33) := ⟨⟨by decide +kernel, by decide +kernel⟩, List.mem_of_getElem? (i := 766) (by decide +kernel), List.mem_of_getElem? (i := 1011) (by decide +kernel), List.mem_of_getElem? (i := 1012) (by decide +kernel)⟩
theorem lw_p43 : lw_okq (⟨"WireWalkersModel", "leans", "(I)V"⟩, 33) := ⟨⟨by decide +kernel, by decide +kernel⟩, List.mem_of_getElem? (i := 766) (by decide +kernel), List.mem_of_getElem? (i := 1018) (by decide +kernel), List.mem_of_getElem? (i := 1019) (by decide +kernel)⟩
theorem lw_p44 : lw_okq (⟨"WireWalkersModel", "moves", "(II)V"⟩, 33) := ⟨⟨by decide +kernel, by decide +kernel⟩, List.mem_of_getElem? (i := 766) (by decide +kernel), List.mem_of_getElem? (i := 1022) (by decide +kernel), List.mem_of_getElem? (i := 1023) (by decide +kernel)⟩
theorem lw_p45 : lw_okq (⟨"WireWalkersModel", "acting", "(II)V"⟩, 33) := ⟨⟨by decide +kernel, by decide +kernel⟩, List.mem_of_getElem? (i := 766) (by decide +kernel), List.mem_of_getElem? (i := 1026) (by decide +kernel), List.mem_of_getElem? (i := 1027) (by decide +kernel)⟩
theorem lw_p46 : lw_okq (⟨"WireWalkersModel", "goes", "(II)V"⟩, 33) := ⟨⟨by decide +kernel, by decide +kernel⟩, List.mem_of_getElem? (i := 766) (by decide +kernel), List.mem_of_getElem? (i := 1030) (by decide +kernel), List.mem_of_getElem? (i := 1031) (by decide +kernel)⟩
theorem lw_p47 : lw_okq (⟨"WireWalkersModel", "whoAt", "(I)I"⟩, 33) := ⟨⟨by decide +kernel, by decide +kernel⟩, List.mem_of_getElem? (i := 766) (by decide +kernel), List.mem_of_getElem? (i := 1034) (by decide +kernel), List.mem_of_getElem? (i := 1035) (by decide +kernel)⟩
def lw_privs_3 : List (MethodName × Nat) := [(⟨"WireWalkersModel", "finds", "(I)I"⟩, 33), (⟨"WireWalkersModel", "lacks", "(III)I"⟩, 33), (⟨"WireWalkersModel", "readsText", "(I)I"⟩, 33), (⟨"WireWalkersModel", "readsWalkers", "()I"⟩, 33), (⟨"WireWalkersModel", "readsRoutine", "()I"⟩, 33), (⟨"WireWalkersModel", "plain", "()V"⟩, 33), (⟨"WireWalkersModel", "isWalker", "(I)Z"⟩, 33), (⟨"WireWalkersModel", "find", "()V"⟩, 33), (⟨"WireWalkersModel", "lives", "()V"⟩, 33), (⟨"WireWalkersModel", "passes", "(IZ)V"⟩, 33), (⟨"WireWalkersModel", "happens", "(I)V"⟩, 33), (⟨"WireWalkersModel", "leans", "(I)V"⟩, 33), (⟨"WireWalkersModel", "moves", "(II)V"⟩, 33), (⟨"WireWalkersModel", "acting", "(II)V"⟩, 33), (⟨"WireWalkersModel", "goes", "(II)V"⟩, 33), (⟨"WireWalkersModel", "whoAt", "(I)I"⟩, 33)]
theorem lw_r3 : ∀ q ∈ lw_privs_3, lw_okq q := List.forall_mem_cons.mpr ⟨lw_p32, List.forall_mem_cons.mpr ⟨lw_p33, List.forall_mem_cons.mpr ⟨lw_p34, List.forall_mem_cons.mpr ⟨lw_p35, List.forall_mem_cons.mpr ⟨lw_p36, List.forall_mem_cons.mpr ⟨lw_p37, List.forall_mem_cons.mpr ⟨lw_p38, List.forall_mem_cons.mpr ⟨lw_p39, List.forall_mem_cons.mpr ⟨lw_p40, List.forall_mem_cons.mpr ⟨lw_p41, List.forall_mem_cons.mpr ⟨lw_p42, List.forall_mem_cons.mpr ⟨lw_p43, List.forall_mem_cons.mpr ⟨lw_p44, List.forall_mem_cons.mpr ⟨lw_p45, List.forall_mem_cons.mpr ⟨lw_p46, List.forall_mem_cons.mpr ⟨lw_p47, fun _ h => absurd h List.not_mem_nil⟩⟩⟩⟩⟩⟩⟩⟩⟩⟩⟩⟩⟩⟩⟩⟩
theorem lw_p48 : lw_okq (⟨"WireWalkersModel", "seesBy", "(II)I"⟩, 33) := ⟨⟨by decide +kernel, by decide +kernel⟩, List.mem_of_getElem? (i := 766) (by decide +kernel), List.mem_of_getElem? (i := 1052) (by decide +kernel), List.mem_of_getElem? (i := 1053) (by decide +kernel)⟩
theorem lw_p49 : lw_okq (⟨"WireWalkersModel", "endsBy", "(II)I"⟩, 33) := ⟨⟨by decide +kernel, by decide +kernel⟩, List.mem_of_getElem? (i := 766) (by decide +kernel), List.mem_of_getElem? (i := 1064) (by decide +kernel), List.mem_of_getElem? (i := 1065) (by decide +kernel)⟩
theorem lw_p50 : lw_okq (⟨"WireWalkersModel", "sumBy", "(I)I"⟩, 33) := ⟨⟨by decide +kernel, by decide +kernel⟩, List.mem_of_getElem? (i := 766) (by decide +kernel), List.mem_of_getElem? (i := 1072) (by decide +kernel), List.mem_of_getElem? (i := 1073) (by decide +kernel)⟩
theorem lw_p51 : lw_okq (⟨"WireWalkersModel", "many", "(I)I"⟩, 33) := ⟨⟨by decide +kernel, by decide +kernel⟩, List.mem_of_getElem? (i := 766) (by decide +kernel), List.mem_of_getElem? (i := 1076) (by decide +kernel), List.mem_of_getElem? (i := 1077) (by decide +kernel)⟩
theorem lw_p52 : lw_okq (⟨"WireWalkersModel", "whoBy", "(I)I"⟩, 33) := ⟨⟨by decide +kernel, by decide +kernel⟩, List.mem_of_getElem? (i := 766) (by decide +kernel), List.mem_of_getElem? (i := 1084) (by decide +kernel), List.mem_of_getElem? (i := 1085) (by decide +kernel)⟩
theorem lw_p53 : lw_okq (⟨"WireWalkersModel", "firstNow", "()I"⟩, 33) := ⟨⟨by decide +kernel, by decide +kernel⟩, List.mem_of_getElem? (i := 766) (by decide +kernel), List.mem_of_getElem? (i := 1088) (by decide +kernel), List.mem_of_getElem? (i := 1089) (by decide +kernel)⟩
theorem lw_p54 : lw_okq (⟨"WireWalkersModel", "worstNow", "()I"⟩, 33) := ⟨⟨by decide +kernel, by decide +kernel⟩, List.mem_of_getElem? (i := 766) (by decide +kernel), List.mem_of_getElem? (i := 1092) (by decide +kernel), List.mem_of_getElem? (i := 1093) (by decide +kernel)⟩
theorem lw_p55 : lw_okq (⟨"WireWalkersModel", "bareNow", "()I"⟩, 33) := ⟨⟨by decide +kernel, by decide +kernel⟩, List.mem_of_getElem? (i := 766) (by decide +kernel), List.mem_of_getElem? (i := 1100) (by decide +kernel), List.mem_of_getElem? (i := 1101) (by decide +kernel)⟩
theorem lw_p56 : lw_okq (⟨"WireWalkersModel", "walkerBetter", "(III)I"⟩, 33) := ⟨⟨by decide +kernel, by decide +kernel⟩, List.mem_of_getElem? (i := 766) (by decide +kernel), List.mem_of_getElem? (i := 1108) (by decide +kernel), List.mem_of_getElem? (i := 1109) (by decide +kernel)⟩
theorem lw_p57 : lw_okq (⟨"WireWalkersModel", "actOf", "(II)I"⟩, 33) := ⟨⟨by decide +kernel, by decide +kernel⟩, List.mem_of_getElem? (i := 766) (by decide +kernel), List.mem_of_getElem? (i := 1120) (by decide +kernel), List.mem_of_getElem? (i := 1121) (by decide +kernel)⟩
theorem lw_p58 : lw_okq (⟨"WireWalkersModel", "spareBy", "(I)I"⟩, 33) := ⟨⟨by decide +kernel, by decide +kernel⟩, List.mem_of_getElem? (i := 766) (by decide +kernel), List.mem_of_getElem? (i := 1129) (by decide +kernel), List.mem_of_getElem? (i := 1130) (by decide +kernel)⟩
theorem lw_p59 : lw_okq (⟨"WireWalkersModel", "isSpared", "(I)Z"⟩, 33) := ⟨⟨by decide +kernel, by decide +kernel⟩, List.mem_of_getElem? (i := 766) (by decide +kernel), List.mem_of_getElem? (i := 1133) (by decide +kernel), List.mem_of_getElem? (i := 1134) (by decide +kernel)⟩
theorem lw_p60 : lw_okq (⟨"WireWalkersModel", "neverNow", "()I"⟩, 33) := ⟨⟨by decide +kernel, by decide +kernel⟩, List.mem_of_getElem? (i := 766) (by decide +kernel), List.mem_of_getElem? (i := 1149) (by decide +kernel), List.mem_of_getElem? (i := 1150) (by decide +kernel)⟩
theorem lw_p61 : lw_okq (⟨"WireWalkersModel", "isSeen", "()Z"⟩, 33) := ⟨⟨by decide +kernel, by decide +kernel⟩, List.mem_of_getElem? (i := 766) (by decide +kernel), List.mem_of_getElem? (i := 1153) (by decide +kernel), List.mem_of_getElem? (i := 1154) (by decide +kernel)⟩
theorem lw_p62 : lw_okq (⟨"WireWalkersModel", "wasOf", "(II)I"⟩, 33) := ⟨⟨by decide +kernel, by decide +kernel⟩, List.mem_of_getElem? (i := 766) (by decide +kernel), List.mem_of_getElem? (i := 1161) (by decide +kernel), List.mem_of_getElem? (i := 1162) (by decide +kernel)⟩
theorem lw_p63 : lw_okq (⟨"WireWalkersModel", "polesOf", "(I)I"⟩, 33) := ⟨⟨by decide +kernel, by decide +kernel⟩, List.mem_of_getElem? (i := 766) (by decide +kernel), List.mem_of_getElem? (i := 1165) (by decide +kernel), List.mem_of_getElem? (i := 1166) (by decide +kernel)⟩
def lw_privs_4 : List (MethodName × Nat) := [(⟨"WireWalkersModel", "seesBy", "(II)I"⟩, 33), (⟨"WireWalkersModel", "endsBy", "(II)I"⟩, 33), (⟨"WireWalkersModel", "sumBy", "(I)I"⟩, 33), (⟨"WireWalkersModel", "many", "(I)I"⟩, 33), (⟨"WireWalkersModel", "whoBy", "(I)I"⟩, 33), (⟨"WireWalkersModel", "firstNow", "()I"⟩, 33), (⟨"WireWalkersModel", "worstNow", "()I"⟩, 33), (⟨"WireWalkersModel", "bareNow", "()I"⟩, 33), (⟨"WireWalkersModel", "walkerBetter", "(III)I"⟩, 33), (⟨"WireWalkersModel", "actOf", "(II)I"⟩, 33), (⟨"WireWalkersModel", "spareBy", "(I)I"⟩, 33), (⟨"WireWalkersModel", "isSpared", "(I)Z"⟩, 33), (⟨"WireWalkersModel", "neverNow", "()I"⟩, 33), (⟨"WireWalkersModel", "isSeen", "()Z"⟩, 33), (⟨"WireWalkersModel", "wasOf", "(II)I"⟩, 33), (⟨"WireWalkersModel", "polesOf", "(I)I"⟩, 33)]
theorem lw_r4 : ∀ q ∈ lw_privs_4, lw_okq q := List.forall_mem_cons.mpr ⟨lw_p48, List.forall_mem_cons.mpr ⟨lw_p49, List.forall_mem_cons.mpr ⟨lw_p50, List.forall_mem_cons.mpr ⟨lw_p51, List.forall_mem_cons.mpr ⟨lw_p52, List.forall_mem_cons.mpr ⟨lw_p53, List.forall_mem_cons.mpr ⟨lw_p54, List.forall_mem_cons.mpr ⟨lw_p55, List.forall_mem_cons.mpr ⟨lw_p56, List.forall_mem_cons.mpr ⟨lw_p57, List.forall_mem_cons.mpr ⟨lw_p58, List.forall_mem_cons.mpr ⟨lw_p59, List.forall_mem_cons.mpr ⟨lw_p60, List.forall_mem_cons.mpr ⟨lw_p61, List.forall_mem_cons.mpr ⟨lw_p62, List.forall_mem_cons.mpr ⟨lw_p63, fun _ h => absurd h List.not_mem_nil⟩⟩⟩⟩⟩⟩⟩⟩⟩⟩⟩⟩⟩⟩⟩⟩
theorem lw_p64 : lw_okq (⟨"WireWalkersModel", "rowOf", "(I)J"⟩, 33) := ⟨⟨by decide +kernel, by decide +kernel⟩, List.mem_of_getElem? (i := 766) (by decide +kernel), List.mem_of_getElem? (i := 1169) (by decide +kernel), List.mem_of_getElem? (i := 1170) (by decide +kernel)⟩
theorem lw_p65 : lw_okq (⟨"WireWalkersModel", "sortOf", "(I)I"⟩, 33) := ⟨⟨by decide +kernel, by decide +kernel⟩, List.mem_of_getElem? (i := 766) (by decide +kernel), List.mem_of_getElem? (i := 1174) (by decide +kernel), List.mem_of_getElem? (i := 1175) (by decide +kernel)⟩
theorem lw_p66 : lw_okq (⟨"WireWalkersModel", "askOf", "(I)I"⟩, 33) := ⟨⟨by decide +kernel, by decide +kernel⟩, List.mem_of_getElem? (i := 766) (by decide +kernel), List.mem_of_getElem? (i := 1182) (by decide +kernel), List.mem_of_getElem? (i := 1183) (by decide +kernel)⟩
theorem lw_p67 : lw_okq (⟨"WireWalkersModel", "alike", "(II)I"⟩, 33) := ⟨⟨by decide +kernel, by decide +kernel⟩, List.mem_of_getElem? (i := 766) (by decide +kernel), List.mem_of_getElem? (i := 1186) (by decide +kernel), List.mem_of_getElem? (i := 1187) (by decide +kernel)⟩
theorem lw_p68 : lw_okq (⟨"WireWalkersModel", "chanceOf", "(III)J"⟩, 33) := ⟨⟨by decide +kernel, by decide +kernel⟩, List.mem_of_getElem? (i := 766) (by decide +kernel), List.mem_of_getElem? (i := 1195) (by decide +kernel), List.mem_of_getElem? (i := 1196) (by decide +kernel)⟩
theorem lw_p69 : lw_okq (⟨"WireWalkersModel", "showsOf", "(III)I"⟩, 33) := ⟨⟨by decide +kernel, by decide +kernel⟩, List.mem_of_getElem? (i := 766) (by decide +kernel), List.mem_of_getElem? (i := 1211) (by decide +kernel), List.mem_of_getElem? (i := 1212) (by decide +kernel)⟩
theorem lw_p70 : lw_okq (⟨"WireWalkersModel", "lot", "(I)I"⟩, 33) := ⟨⟨by decide +kernel, by decide +kernel⟩, List.mem_of_getElem? (i := 766) (by decide +kernel), List.mem_of_getElem? (i := 1215) (by decide +kernel), List.mem_of_getElem? (i := 1216) (by decide +kernel)⟩
theorem lw_p71 : lw_okq (⟨"WireWalkersModel", "tellsWalker", "(JI)J"⟩, 33) := ⟨⟨by decide +kernel, by decide +kernel⟩, List.mem_of_getElem? (i := 766) (by decide +kernel), List.mem_of_getElem? (i := 1238) (by decide +kernel), List.mem_of_getElem? (i := 1239) (by decide +kernel)⟩
theorem lw_p72 : lw_okq (⟨"WireWalkersModel", "tellsBeat", "(JII)J"⟩, 33) := ⟨⟨by decide +kernel, by decide +kernel⟩, List.mem_of_getElem? (i := 766) (by decide +kernel), List.mem_of_getElem? (i := 1242) (by decide +kernel), List.mem_of_getElem? (i := 1243) (by decide +kernel)⟩
def lw_privs_5 : List (MethodName × Nat) := [(⟨"WireWalkersModel", "rowOf", "(I)J"⟩, 33), (⟨"WireWalkersModel", "sortOf", "(I)I"⟩, 33), (⟨"WireWalkersModel", "askOf", "(I)I"⟩, 33), (⟨"WireWalkersModel", "alike", "(II)I"⟩, 33), (⟨"WireWalkersModel", "chanceOf", "(III)J"⟩, 33), (⟨"WireWalkersModel", "showsOf", "(III)I"⟩, 33), (⟨"WireWalkersModel", "lot", "(I)I"⟩, 33), (⟨"WireWalkersModel", "tellsWalker", "(JI)J"⟩, 33), (⟨"WireWalkersModel", "tellsBeat", "(JII)J"⟩, 33)]
theorem lw_r5 : ∀ q ∈ lw_privs_5, lw_okq q := List.forall_mem_cons.mpr ⟨lw_p64, List.forall_mem_cons.mpr ⟨lw_p65, List.forall_mem_cons.mpr ⟨lw_p66, List.forall_mem_cons.mpr ⟨lw_p67, List.forall_mem_cons.mpr ⟨lw_p68, List.forall_mem_cons.mpr ⟨lw_p69, List.forall_mem_cons.mpr ⟨lw_p70, List.forall_mem_cons.mpr ⟨lw_p71, List.forall_mem_cons.mpr ⟨lw_p72, fun _ h => absurd h List.not_mem_nil⟩⟩⟩⟩⟩⟩⟩⟩⟩
def lw_privs : List (MethodName × Nat) := lw_privs_1 ++ (lw_privs_2 ++ (lw_privs_3 ++ (lw_privs_4 ++ (lw_privs_5))))
def lw_tbl : List Cond := k2_sels lw_privs ++ tables_1
theorem lw_privs_ok : ∀ q ∈ lw_privs, lw_okq q := by
  show ∀ q ∈ lw_privs_1 ++ (lw_privs_2 ++ (lw_privs_3 ++ (lw_privs_4 ++ (lw_privs_5)))), lw_okq q
  exact List.forall_mem_append.mpr ⟨lw_r1, List.forall_mem_append.mpr ⟨lw_r2, List.forall_mem_append.mpr ⟨lw_r3, List.forall_mem_append.mpr ⟨lw_r4, lw_r5⟩⟩⟩⟩
end
section
def RX0 : String := "WireWalkers$Ledger"
def TX0 : u_T := fun k => match k with
  | 0 => ("WireWalkers$Ledger", "states", "[I", true)
  | 1 => ("WireWalkers$Ledger", "places", "[I", true)
  | 2 => ("WireWalkers$Ledger", "leans", "[I", true)
  | _ => ("WireWalkers$Ledger", "sways", "[I", true)
def tyX0 : Nat → FieldType := fun k => match k with
  | 0 => .array .int
  | 1 => .array .int
  | 2 => .array .int
  | _ => .array .int
abbrev wsX00 : List Cond := u_ws RX0 TX0 4
theorem nmX0 : ∀ a, a < 4 → ∀ b, b < 4 → a ≠ b → (TX0 a).2.1 ≠ (TX0 b).2.1 := by decide +kernel
theorem tyX0_ok : ∀ k, k < 4 → parseFieldDescriptor (TX0 k).2.2.1 = some (tyX0 k) := by decide +kernel
abbrev cX0_init : ByteArray := prog_2_method_1_code
def yX0_init : MethodName := ⟨RX0, "<init>", "()V"⟩
abbrev cX0_note : ByteArray := prog_2_method_2_code
def yX0_note : MethodName := ⟨RX0, "note", "(IIIII)V"⟩
abbrev cX0_noteSway : ByteArray := prog_2_method_3_code
def yX0_noteSway : MethodName := ⟨RX0, "noteSway", "(II)V"⟩
abbrev cX0_stateBehind : ByteArray := prog_2_method_4_code
def yX0_stateBehind : MethodName := ⟨RX0, "stateBehind", "(II)I"⟩
abbrev cX0_placeBehind : ByteArray := prog_2_method_5_code
def yX0_placeBehind : MethodName := ⟨RX0, "placeBehind", "(II)I"⟩
abbrev cX0_leanBehind : ByteArray := prog_2_method_6_code
def yX0_leanBehind : MethodName := ⟨RX0, "leanBehind", "(II)I"⟩
abbrev cX0_markOfPlaces : ByteArray := prog_2_method_7_code
def yX0_markOfPlaces : MethodName := ⟨RX0, "markOfPlaces", "(II)J"⟩
abbrev cX0_rowOf : ByteArray := prog_2_method_8_code
def yX0_rowOf : MethodName := ⟨RX0, "rowOf", "(II)I"⟩
def RX1 : String := "WireWalkers$Sheet"
def TX1 : u_T := fun k => match k with
  | 0 => ("WireWalkers$Sheet", "items", "[I", true)
  | 1 => ("WireWalkers$Sheet", "lost", "Z", false)
  | 2 => ("WireWalkers$Sheet", "form", "I", false)
  | _ => ("WireWalkers$Sheet", "size", "I", false)
def tyX1 : Nat → FieldType := fun k => match k with
  | 0 => .array .int
  | 1 => .boolean
  | 2 => .int
  | _ => .int
abbrev wsX10 : List Cond := u_ws RX1 TX1 4
theorem nmX1 : ∀ a, a < 4 → ∀ b, b < 4 → a ≠ b → (TX1 a).2.1 ≠ (TX1 b).2.1 := by decide +kernel
theorem tyX1_ok : ∀ k, k < 4 → parseFieldDescriptor (TX1 k).2.2.1 = some (tyX1 k) := by decide +kernel
abbrev cX1_init : ByteArray := prog_3_method_1_code
def yX1_init : MethodName := ⟨RX1, "<init>", "()V"⟩
abbrev cX1_makeNew : ByteArray := prog_3_method_2_code
def yX1_makeNew : MethodName := ⟨RX1, "makeNew", "(II)V"⟩
abbrev cX1_put : ByteArray := prog_3_method_3_code
def yX1_put : MethodName := ⟨RX1, "put", "(II)V"⟩
abbrev cX1_hasRun : ByteArray := prog_3_method_4_code
def yX1_hasRun : MethodName := ⟨RX1, "hasRun", "(II)Z"⟩
abbrev cX1_fitted : ByteArray := prog_3_method_5_code
def yX1_fitted : MethodName := ⟨RX1, "fitted", "(I)I"⟩
def RX2 : String := "WireWalkers$Show"
def TX2 : u_T := fun k => match k with
  | 0 => ("WireWalkers$Show", "weather", "LWireWalkers$Weather;", true)
  | 1 => ("WireWalkers$Show", "ledger", "LWireWalkers$Ledger;", true)
  | 2 => ("WireWalkers$Show", "state", "[I", true)
  | 3 => ("WireWalkers$Show", "place", "[I", true)
  | 4 => ("WireWalkers$Show", "leaning", "[I", true)
  | 5 => ("WireWalkers$Show", "pole", "[I", true)
  | 6 => ("WireWalkers$Show", "began", "[I", true)
  | 7 => ("WireWalkers$Show", "ended", "[I", true)
  | 8 => ("WireWalkers$Show", "blocked", "[I", true)
  | 9 => ("WireWalkers$Show", "farthest", "[I", true)
  | 10 => ("WireWalkers$Show", "line", "[I", true)
  | 11 => ("WireWalkers$Show", "inLine", "I", false)
  | 12 => ("WireWalkers$Show", "steps", "I", false)
  | 13 => ("WireWalkers$Show", "overs", "I", false)
  | _ => ("WireWalkers$Show", "falls", "I", false)
def tyX2 : Nat → FieldType := fun k => match k with
  | 0 => .object "WireWalkers$Weather"
  | 1 => .object "WireWalkers$Ledger"
  | 2 => .array .int
  | 3 => .array .int
  | 4 => .array .int
  | 5 => .array .int
  | 6 => .array .int
  | 7 => .array .int
  | 8 => .array .int
  | 9 => .array .int
  | 10 => .array .int
  | 11 => .int
  | 12 => .int
  | 13 => .int
  | _ => .int
abbrev wsX20 : List Cond := u_ws RX2 TX2 15
theorem nmX2 : ∀ a, a < 15 → ∀ b, b < 15 → a ≠ b → (TX2 a).2.1 ≠ (TX2 b).2.1 := by decide +kernel
theorem tyX2_ok : ∀ k, k < 15 → parseFieldDescriptor (TX2 k).2.2.1 = some (tyX2 k) := by decide +kernel
abbrev cX2_init : ByteArray := prog_4_method_1_code
def yX2_init : MethodName := ⟨RX2, "<init>", "()V"⟩
abbrev cX2_play : ByteArray := prog_4_method_2_code
def yX2_play : MethodName := ⟨RX2, "play", "(LWireWalkers$Told;[IIZ)V"⟩
abbrev cX2_bitsOfOver : ByteArray := prog_4_method_3_code
def yX2_bitsOfOver : MethodName := ⟨RX2, "bitsOfOver", "(I)I"⟩
abbrev cX2_prepare : ByteArray := prog_4_method_4_code
def yX2_prepare : MethodName := ⟨RX2, "prepare", "(LWireWalkers$Told;I)V"⟩
abbrev cX2_playBeat : ByteArray := prog_4_method_5_code
def yX2_playBeat : MethodName := ⟨RX2, "playBeat", "(LWireWalkers$Told;[III)V"⟩
abbrev cX2_dropPoles : ByteArray := prog_4_method_6_code
def yX2_dropPoles : MethodName := ⟨RX2, "dropPoles", "(I)V"⟩
abbrev cX2_perform : ByteArray := prog_4_method_7_code
def yX2_perform : MethodName := ⟨RX2, "perform", "(LWireWalkers$Told;IIII)V"⟩
abbrev cX2_settle : ByteArray := prog_4_method_8_code
def yX2_settle : MethodName := ⟨RX2, "settle", "(LWireWalkers$Told;II)V"⟩
abbrev cX2_startNext : ByteArray := prog_4_method_9_code
def yX2_startNext : MethodName := ⟨RX2, "startNext", "(LWireWalkers$Told;I)V"⟩
abbrev cX2_noteBeat : ByteArray := prog_4_method_10_code
def yX2_noteBeat : MethodName := ⟨RX2, "noteBeat", "(III)V"⟩
abbrev cX2_signOf : ByteArray := prog_4_method_11_code
def yX2_signOf : MethodName := ⟨RX2, "signOf", "(I)I"⟩
def RX3 : String := "WireWalkers$Sightings"
def TX3 : u_T := fun k => match k with
  | 0 => ("WireWalkers$Sightings", "beats", "[I", true)
  | 1 => ("WireWalkers$Sightings", "walkers", "[I", true)
  | 2 => ("WireWalkers$Sightings", "states", "[I", true)
  | _ => ("WireWalkers$Sightings", "size", "I", false)
def tyX3 : Nat → FieldType := fun k => match k with
  | 0 => .array .int
  | 1 => .array .int
  | 2 => .array .int
  | _ => .int
abbrev wsX30 : List Cond := u_ws RX3 TX3 4
theorem nmX3 : ∀ a, a < 4 → ∀ b, b < 4 → a ≠ b → (TX3 a).2.1 ≠ (TX3 b).2.1 := by decide +kernel
theorem tyX3_ok : ∀ k, k < 4 → parseFieldDescriptor (TX3 k).2.2.1 = some (tyX3 k) := by decide +kernel
abbrev cX3_init : ByteArray := prog_5_method_1_code
def yX3_init : MethodName := ⟨RX3, "<init>", "()V"⟩
abbrev cX3_hasRoom : ByteArray := prog_5_method_2_code
def yX3_hasRoom : MethodName := ⟨RX3, "hasRoom", "()Z"⟩
abbrev cX3_add : ByteArray := prog_5_method_3_code
def yX3_add : MethodName := ⟨RX3, "add", "(III)V"⟩
abbrev cX3_fit : ByteArray := prog_5_method_4_code
def yX3_fit : MethodName := ⟨RX3, "fit", "(LWireWalkers$Ledger;I)Z"⟩
def RX4 : String := "WireWalkers$Text"
def TX4 : u_T := fun k => match k with
  | 0 => ("WireWalkers$Text", "bytes", "[I", true)
  | _ => ("WireWalkers$Text", "size", "I", false)
def tyX4 : Nat → FieldType := fun k => match k with
  | 0 => .array .int
  | _ => .int
abbrev wsX40 : List Cond := u_ws RX4 TX4 2
theorem nmX4 : ∀ a, a < 2 → ∀ b, b < 2 → a ≠ b → (TX4 a).2.1 ≠ (TX4 b).2.1 := by decide +kernel
theorem tyX4_ok : ∀ k, k < 2 → parseFieldDescriptor (TX4 k).2.2.1 = some (tyX4 k) := by decide +kernel
abbrev cX4_init : ByteArray := prog_6_method_1_code
def yX4_init : MethodName := ⟨RX4, "<init>", "(I)V"⟩
abbrev cX4_hasRoom : ByteArray := prog_6_method_2_code
def yX4_hasRoom : MethodName := ⟨RX4, "hasRoom", "()Z"⟩
abbrev cX4_add : ByteArray := prog_6_method_3_code
def yX4_add : MethodName := ⟨RX4, "add", "(I)V"⟩
abbrev cX4_byteAt : ByteArray := prog_6_method_4_code
def yX4_byteAt : MethodName := ⟨RX4, "byteAt", "(I)I"⟩
abbrev cX4_faultOfWalkers : ByteArray := prog_6_method_5_code
def yX4_faultOfWalkers : MethodName := ⟨RX4, "faultOfWalkers", "()I"⟩
abbrev cX4_faultOfRoutine : ByteArray := prog_6_method_6_code
def yX4_faultOfRoutine : MethodName := ⟨RX4, "faultOfRoutine", "()I"⟩
abbrev cX4_fitsWalkers : ByteArray := prog_6_method_7_code
def yX4_fitsWalkers : MethodName := ⟨RX4, "fitsWalkers", "(II)Z"⟩
abbrev cX4_sortOf : ByteArray := prog_6_method_8_code
def yX4_sortOf : MethodName := ⟨RX4, "sortOf", "(I)I"⟩
abbrev cX4_moveOf : ByteArray := prog_6_method_9_code
def yX4_moveOf : MethodName := ⟨RX4, "moveOf", "(I)I"⟩
def RX5 : String := "WireWalkers$Told"
def TX5 : u_T := fun k => match k with
  | 0 => ("WireWalkers$Told", "starts", "[I", true)
  | 1 => ("WireWalkers$Told", "sorts", "[I", true)
  | 2 => ("WireWalkers$Told", "poles", "[I", true)
  | 3 => ("WireWalkers$Told", "moves", "[I", true)
  | 4 => ("WireWalkers$Told", "kinds", "[I", true)
  | 5 => ("WireWalkers$Told", "beats", "[I", true)
  | 6 => ("WireWalkers$Told", "numbers", "[I", true)
  | 7 => ("WireWalkers$Told", "walkers", "I", false)
  | 8 => ("WireWalkers$Told", "events", "I", false)
  | 9 => ("WireWalkers$Told", "length", "I", false)
  | 10 => ("WireWalkers$Told", "slack", "I", false)
  | _ => ("WireWalkers$Told", "limit", "I", false)
def tyX5 : Nat → FieldType := fun k => match k with
  | 0 => .array .int
  | 1 => .array .int
  | 2 => .array .int
  | 3 => .array .int
  | 4 => .array .int
  | 5 => .array .int
  | 6 => .array .int
  | 7 => .int
  | 8 => .int
  | 9 => .int
  | 10 => .int
  | _ => .int
abbrev wsX50 : List Cond := u_ws RX5 TX5 12
theorem nmX5 : ∀ a, a < 12 → ∀ b, b < 12 → a ≠ b → (TX5 a).2.1 ≠ (TX5 b).2.1 := by decide +kernel
theorem tyX5_ok : ∀ k, k < 12 → parseFieldDescriptor (TX5 k).2.2.1 = some (tyX5 k) := by decide +kernel
abbrev cX5_init : ByteArray := prog_7_method_1_code
def yX5_init : MethodName := ⟨RX5, "<init>", "()V"⟩
abbrev cX5_takeWalkers : ByteArray := prog_7_method_2_code
def yX5_takeWalkers : MethodName := ⟨RX5, "takeWalkers", "(LWireWalkers$Text;)V"⟩
abbrev cX5_takeRoutine : ByteArray := prog_7_method_3_code
def yX5_takeRoutine : MethodName := ⟨RX5, "takeRoutine", "(LWireWalkers$Text;)V"⟩
abbrev cX5_mayBeEvent : ByteArray := prog_7_method_4_code
def yX5_mayBeEvent : MethodName := ⟨RX5, "mayBeEvent", "(III)Z"⟩
abbrev cX5_hasRoomForEvent : ByteArray := prog_7_method_5_code
def yX5_hasRoomForEvent : MethodName := ⟨RX5, "hasRoomForEvent", "()Z"⟩
abbrev cX5_addEvent : ByteArray := prog_7_method_6_code
def yX5_addEvent : MethodName := ⟨RX5, "addEvent", "(III)V"⟩
def RX6 : String := "WireWalkers$Weather"
def TX6 : u_T := fun k => match k with
  | 0 => ("WireWalkers$Weather", "gusts", "[I", true)
  | 1 => ("WireWalkers$Weather", "cheers", "[I", true)
  | _ => ("WireWalkers$Weather", "drops", "[I", true)
def tyX6 : Nat → FieldType := fun k => match k with
  | 0 => .array .int
  | 1 => .array .int
  | _ => .array .int
abbrev wsX60 : List Cond := u_ws RX6 TX6 3
theorem nmX6 : ∀ a, a < 3 → ∀ b, b < 3 → a ≠ b → (TX6 a).2.1 ≠ (TX6 b).2.1 := by decide +kernel
theorem tyX6_ok : ∀ k, k < 3 → parseFieldDescriptor (TX6 k).2.2.1 = some (tyX6 k) := by decide +kernel
abbrev cX6_init : ByteArray := prog_8_method_1_code
def yX6_init : MethodName := ⟨RX6, "<init>", "()V"⟩
abbrev cX6_gather : ByteArray := prog_8_method_2_code
def yX6_gather : MethodName := ⟨RX6, "gather", "(LWireWalkers$Told;I)V"⟩
abbrev cX6_add : ByteArray := prog_8_method_3_code
def yX6_add : MethodName := ⟨RX6, "add", "(III)V"⟩
def RX7 : String := "WireWalkers"
def TX7 : u_T := fun k => match k with
  | 0 => ("WireWalkers", "walkerText", "LWireWalkers$Text;", true)
  | 1 => ("WireWalkers", "routineText", "LWireWalkers$Text;", true)
  | 2 => ("WireWalkers", "told", "LWireWalkers$Told;", true)
  | 3 => ("WireWalkers", "sightings", "LWireWalkers$Sightings;", true)
  | 4 => ("WireWalkers", "show", "LWireWalkers$Show;", true)
  | 5 => ("WireWalkers", "trial", "LWireWalkers$Show;", true)
  | 6 => ("WireWalkers", "trialMoves", "[I", true)
  | 7 => ("WireWalkers", "overBits", "[I", true)
  | 8 => ("WireWalkers", "placeMarks", "[J", true)
  | 9 => ("WireWalkers", "spared", "[I", true)
  | 10 => ("WireWalkers", "sheets", "[LWireWalkers$Sheet;", true)
  | 11 => ("WireWalkers", "showFresh", "Z", false)
  | 12 => ("WireWalkers", "oddsFresh", "Z", false)
  | 13 => ("WireWalkers", "bestChoice", "I", false)
  | 14 => ("WireWalkers", "bestOvers", "I", false)
  | _ => ("WireWalkers", "latestFinding", "I", false)
def tyX7 : Nat → FieldType := fun k => match k with
  | 0 => .object "WireWalkers$Text"
  | 1 => .object "WireWalkers$Text"
  | 2 => .object "WireWalkers$Told"
  | 3 => .object "WireWalkers$Sightings"
  | 4 => .object "WireWalkers$Show"
  | 5 => .object "WireWalkers$Show"
  | 6 => .array .int
  | 7 => .array .int
  | 8 => .array .long
  | 9 => .array .int
  | 10 => .array (.object "WireWalkers$Sheet")
  | 11 => .boolean
  | 12 => .boolean
  | 13 => .int
  | 14 => .int
  | _ => .int
abbrev wsX70 : List Cond := u_ws RX7 TX7 16
theorem nmX7 : ∀ a, a < 16 → ∀ b, b < 16 → a ≠ b → (TX7 a).2.1 ≠ (TX7 b).2.1 := by decide +kernel
theorem tyX7_ok : ∀ k, k < 16 → parseFieldDescriptor (TX7 k).2.2.1 = some (tyX7 k) := by decide +kernel
abbrev cX7_init : ByteArray := prog_1_method_1_code
def yX7_init : MethodName := ⟨RX7, "<init>", "()V"⟩
abbrev cX7_type : ByteArray := prog_1_method_2_code
def yX7_type : MethodName := ⟨RX7, "type", "(II)I"⟩
abbrev cX7_wipe : ByteArray := prog_1_method_3_code
def yX7_wipe : MethodName := ⟨RX7, "wipe", "(I)I"⟩
abbrev cX7_undo : ByteArray := prog_1_method_4_code
def yX7_undo : MethodName := ⟨RX7, "undo", "(I)I"⟩
abbrev cX7_fault : ByteArray := prog_1_method_5_code
def yX7_fault : MethodName := ⟨RX7, "fault", "(I)I"⟩
abbrev cX7_walker : ByteArray := prog_1_method_6_code
def yX7_walker : MethodName := ⟨RX7, "walker", "(II)I"⟩
abbrev cX7_routine : ByteArray := prog_1_method_7_code
def yX7_routine : MethodName := ⟨RX7, "routine", "(I)I"⟩
abbrev cX7_wire : ByteArray := prog_1_method_8_code
def yX7_wire : MethodName := ⟨RX7, "wire", "(II)I"⟩
abbrev cX7_event : ByteArray := prog_1_method_9_code
def yX7_event : MethodName := ⟨RX7, "event", "(III)I"⟩
abbrev cX7_back : ByteArray := prog_1_method_10_code
def yX7_back : MethodName := ⟨RX7, "back", "()I"⟩
abbrev cX7_read : ByteArray := prog_1_method_11_code
def yX7_read : MethodName := ⟨RX7, "read", "(I)I"⟩
abbrev cX7_at : ByteArray := prog_1_method_12_code
def yX7_at : MethodName := ⟨RX7, "at", "(III)I"⟩
abbrev cX7_lean : ByteArray := prog_1_method_13_code
def yX7_lean : MethodName := ⟨RX7, "lean", "(II)I"⟩
abbrev cX7_sees : ByteArray := prog_1_method_14_code
def yX7_sees : MethodName := ⟨RX7, "sees", "(II)I"⟩
abbrev cX7_sway : ByteArray := prog_1_method_15_code
def yX7_sway : MethodName := ⟨RX7, "sway", "(I)I"⟩
abbrev cX7_ends : ByteArray := prog_1_method_16_code
def yX7_ends : MethodName := ⟨RX7, "ends", "(II)I"⟩
abbrev cX7_sum : ByteArray := prog_1_method_17_code
def yX7_sum : MethodName := ⟨RX7, "sum", "(I)I"⟩
abbrev cX7_who : ByteArray := prog_1_method_18_code
def yX7_who : MethodName := ⟨RX7, "who", "(I)I"⟩
abbrev cX7_bare : ByteArray := prog_1_method_19_code
def yX7_bare : MethodName := ⟨RX7, "bare", "()I"⟩
abbrev cX7_firstOver : ByteArray := prog_1_method_20_code
def yX7_firstOver : MethodName := ⟨RX7, "firstOver", "()I"⟩
abbrev cX7_farthestLeaning : ByteArray := prog_1_method_21_code
def yX7_farthestLeaning : MethodName := ⟨RX7, "farthestLeaning", "()I"⟩
abbrev cX7_start : ByteArray := prog_1_method_22_code
def yX7_start : MethodName := ⟨RX7, "start", "(II)I"⟩
abbrev cX7_hold : ByteArray := prog_1_method_23_code
def yX7_hold : MethodName := ⟨RX7, "hold", "(II)I"⟩
abbrev cX7_act : ByteArray := prog_1_method_24_code
def yX7_act : MethodName := ⟨RX7, "act", "(II)I"⟩
abbrev cX7_spare : ByteArray := prog_1_method_25_code
def yX7_spare : MethodName := ⟨RX7, "spare", "(I)I"⟩
abbrev cX7_chooseFor : ByteArray := prog_1_method_26_code
def yX7_chooseFor : MethodName := ⟨RX7, "chooseFor", "([III)V"⟩
abbrev cX7_spareFewest : ByteArray := prog_1_method_27_code
def yX7_spareFewest : MethodName := ⟨RX7, "spareFewest", "()I"⟩
abbrev cX7_nobodyFallsWithout : ByteArray := prog_1_method_28_code
def yX7_nobodyFallsWithout : MethodName := ⟨RX7, "nobodyFallsWithout", "(I)Z"⟩
abbrev cX7_seen : ByteArray := prog_1_method_29_code
def yX7_seen : MethodName := ⟨RX7, "seen", "(III)I"⟩
abbrev cX7_forget : ByteArray := prog_1_method_30_code
def yX7_forget : MethodName := ⟨RX7, "forget", "()I"⟩
abbrev cX7_never : ByteArray := prog_1_method_31_code
def yX7_never : MethodName := ⟨RX7, "never", "()I"⟩
abbrev cX7_was : ByteArray := prog_1_method_32_code
def yX7_was : MethodName := ⟨RX7, "was", "(II)I"⟩
abbrev cX7_ask : ByteArray := prog_1_method_33_code
def yX7_ask : MethodName := ⟨RX7, "ask", "(I)I"⟩
abbrev cX7_chance : ByteArray := prog_1_method_34_code
def yX7_chance : MethodName := ⟨RX7, "chance", "(III)J"⟩
abbrev cX7_shows : ByteArray := prog_1_method_35_code
def yX7_shows : MethodName := ⟨RX7, "shows", "(III)I"⟩
abbrev cX7_fittingPoles : ByteArray := prog_1_method_36_code
def yX7_fittingPoles : MethodName := ⟨RX7, "fittingPoles", "(I)I"⟩
abbrev cX7_fittingSorts : ByteArray := prog_1_method_37_code
def yX7_fittingSorts : MethodName := ⟨RX7, "fittingSorts", "(I)I"⟩
abbrev cX7_markPlaces : ByteArray := prog_1_method_38_code
def yX7_markPlaces : MethodName := ⟨RX7, "markPlaces", "(I)V"⟩
abbrev cX7_mostAlike : ByteArray := prog_1_method_39_code
def yX7_mostAlike : MethodName := ⟨RX7, "mostAlike", "(II)I"⟩
abbrev cX7_markBehind : ByteArray := prog_1_method_40_code
def yX7_markBehind : MethodName := ⟨RX7, "markBehind", "(II)J"⟩
abbrev cX7_weighOdds : ByteArray := prog_1_method_41_code
def yX7_weighOdds : MethodName := ⟨RX7, "weighOdds", "()V"⟩
abbrev cX7_weightOf : ByteArray := prog_1_method_42_code
def yX7_weightOf : MethodName := ⟨RX7, "weightOf", "(II)J"⟩
abbrev cX7_sheet : ByteArray := prog_1_method_43_code
def yX7_sheet : MethodName := ⟨RX7, "sheet", "(III)I"⟩
abbrev cX7_lose : ByteArray := prog_1_method_44_code
def yX7_lose : MethodName := ⟨RX7, "lose", "(I)I"⟩
abbrev cX7_lay : ByteArray := prog_1_method_45_code
def yX7_lay : MethodName := ⟨RX7, "lay", "(IIII)I"⟩
abbrev cX7_get : ByteArray := prog_1_method_46_code
def yX7_get : MethodName := ⟨RX7, "get", "(III)I"⟩
abbrev cX7_copy : ByteArray := prog_1_method_47_code
def yX7_copy : MethodName := ⟨RX7, "copy", "(IIIII)I"⟩
abbrev cX7_write : ByteArray := prog_1_method_48_code
def yX7_write : MethodName := ⟨RX7, "write", "(II)I"⟩
abbrev cX7_count : ByteArray := prog_1_method_49_code
def yX7_count : MethodName := ⟨RX7, "count", "(I)I"⟩
abbrev cX7_digest : ByteArray := prog_1_method_50_code
def yX7_digest : MethodName := ⟨RX7, "digest", "()J"⟩
abbrev cX7_mixedWalk : ByteArray := prog_1_method_51_code
def yX7_mixedWalk : MethodName := ⟨RX7, "mixedWalk", "(JI)J"⟩
abbrev cX7_mixedBehind : ByteArray := prog_1_method_52_code
def yX7_mixedBehind : MethodName := ⟨RX7, "mixedBehind", "(JII)J"⟩
abbrev cX7_mixedPlans : ByteArray := prog_1_method_53_code
def yX7_mixedPlans : MethodName := ⟨RX7, "mixedPlans", "(JI)J"⟩
abbrev cX7_mixedBest : ByteArray := prog_1_method_54_code
def yX7_mixedBest : MethodName := ⟨RX7, "mixedBest", "(JI)J"⟩
abbrev cX7_mixedRest : ByteArray := prog_1_method_55_code
def yX7_mixedRest : MethodName := ⟨RX7, "mixedRest", "(J)J"⟩
abbrev cX7_mixed : ByteArray := prog_1_method_56_code
def yX7_mixed : MethodName := ⟨RX7, "mixed", "(JJ)J"⟩
abbrev cX7_within : ByteArray := prog_1_method_57_code
def yX7_within : MethodName := ⟨RX7, "within", "(III)Z"⟩
abbrev cX7_isBeat : ByteArray := prog_1_method_58_code
def yX7_isBeat : MethodName := ⟨RX7, "isBeat", "(I)Z"⟩
abbrev cX7_isSheet : ByteArray := prog_1_method_59_code
def yX7_isSheet : MethodName := ⟨RX7, "isSheet", "(I)Z"⟩
abbrev cX7_isForm : ByteArray := prog_1_method_60_code
def yX7_isForm : MethodName := ⟨RX7, "isForm", "(I)Z"⟩
abbrev cX7_isWalker : ByteArray := prog_1_method_61_code
def yX7_isWalker : MethodName := ⟨RX7, "isWalker", "(I)Z"⟩
abbrev cX7_textOf : ByteArray := prog_1_method_62_code
def yX7_textOf : MethodName := ⟨RX7, "textOf", "(I)LWireWalkers$Text;"⟩
abbrev cX7_takeTexts : ByteArray := prog_1_method_63_code
def yX7_takeTexts : MethodName := ⟨RX7, "takeTexts", "()V"⟩
abbrev cX7_forgetShows : ByteArray := prog_1_method_64_code
def yX7_forgetShows : MethodName := ⟨RX7, "forgetShows", "()V"⟩
abbrev cX7_shown : ByteArray := prog_1_method_65_code
def yX7_shown : MethodName := ⟨RX7, "shown", "()LWireWalkers$Show;"⟩
abbrev cX7_found : ByteArray := prog_1_method_66_code
def yX7_found : MethodName := ⟨RX7, "found", "(I)I"⟩
abbrev cX7_findingAt : ByteArray := prog_1_method_67_code
def yX7_findingAt : MethodName := ⟨RX7, "findingAt", "(LWireWalkers$Sheet;II)I"⟩
def RX8 : String := "WireWalkersModel"
def TX8 : u_T := fun k => match k with
  | 0 => ("WireWalkersModel", "forms", "[I", true)
  | 1 => ("WireWalkersModel", "sizes", "[I", true)
  | 2 => ("WireWalkersModel", "items", "[I", true)
  | 3 => ("WireWalkersModel", "moved", "[I", true)
  | 4 => ("WireWalkersModel", "latest", "I", false)
  | 5 => ("WireWalkersModel", "bytes", "[I", true)
  | 6 => ("WireWalkersModel", "typed", "[I", true)
  | 7 => ("WireWalkersModel", "walkers", "I", false)
  | 8 => ("WireWalkersModel", "walker", "[I", true)
  | 9 => ("WireWalkersModel", "told", "I", false)
  | 10 => ("WireWalkersModel", "acts", "[I", true)
  | 11 => ("WireWalkersModel", "wires", "[I", true)
  | 12 => ("WireWalkersModel", "events", "I", false)
  | 13 => ("WireWalkersModel", "event", "[I", true)
  | 14 => ("WireWalkersModel", "gone", "I", false)
  | 15 => ("WireWalkersModel", "state", "[I", true)
  | 16 => ("WireWalkersModel", "place", "[I", true)
  | 17 => ("WireWalkersModel", "lean", "[I", true)
  | 18 => ("WireWalkersModel", "pole", "[I", true)
  | 19 => ("WireWalkersModel", "own", "[I", true)
  | 20 => ("WireWalkersModel", "endIn", "[I", true)
  | 21 => ("WireWalkersModel", "halts", "[I", true)
  | 22 => ("WireWalkersModel", "farthest", "[I", true)
  | 23 => ("WireWalkersModel", "stateBy", "[I", true)
  | 24 => ("WireWalkersModel", "placeBy", "[I", true)
  | 25 => ("WireWalkersModel", "leanBy", "[I", true)
  | 26 => ("WireWalkersModel", "swayBy", "[I", true)
  | 27 => ("WireWalkersModel", "steps", "I", false)
  | 28 => ("WireWalkersModel", "cheers", "Z", false)
  | 29 => ("WireWalkersModel", "sights", "I", false)
  | 30 => ("WireWalkersModel", "sight", "[I", true)
  | 31 => ("WireWalkersModel", "rows", "[J", true)
  | _ => ("WireWalkersModel", "drawn", "I", false)
def tyX8 : Nat → FieldType := fun k => match k with
  | 0 => .array .int
  | 1 => .array .int
  | 2 => .array .int
  | 3 => .array .int
  | 4 => .int
  | 5 => .array .int
  | 6 => .array .int
  | 7 => .int
  | 8 => .array .int
  | 9 => .int
  | 10 => .array .int
  | 11 => .array .int
  | 12 => .int
  | 13 => .array .int
  | 14 => .int
  | 15 => .array .int
  | 16 => .array .int
  | 17 => .array .int
  | 18 => .array .int
  | 19 => .array .int
  | 20 => .array .int
  | 21 => .array .int
  | 22 => .array .int
  | 23 => .array .int
  | 24 => .array .int
  | 25 => .array .int
  | 26 => .array .int
  | 27 => .int
  | 28 => .boolean
  | 29 => .int
  | 30 => .array .int
  | 31 => .array .long
  | _ => .int
abbrev wsX80 : List Cond := u_ws RX8 TX8 33
theorem nmX8 : ∀ a, a < 33 → ∀ b, b < 33 → a ≠ b → (TX8 a).2.1 ≠ (TX8 b).2.1 := by decide +kernel
theorem tyX8_ok : ∀ k, k < 33 → parseFieldDescriptor (TX8 k).2.2.1 = some (tyX8 k) := by decide +kernel
abbrev cX8_init : ByteArray := prog_10_method_1_code
def yX8_init : MethodName := ⟨RX8, "<init>", "()V"⟩
abbrev cX8_in : ByteArray := prog_10_method_3_code
def yX8_in : MethodName := ⟨RX8, "in", "(JJJ)Z"⟩
abbrev cX8_no : ByteArray := prog_10_method_4_code
def yX8_no : MethodName := ⟨RX8, "no", "(I)J"⟩
abbrev cX8_isTwo : ByteArray := prog_10_method_5_code
def yX8_isTwo : MethodName := ⟨RX8, "isTwo", "(I)Z"⟩
abbrev cX8_isIn : ByteArray := prog_10_method_6_code
def yX8_isIn : MethodName := ⟨RX8, "isIn", "(II)Z"⟩
abbrev cX8_lesser : ByteArray := prog_10_method_7_code
def yX8_lesser : MethodName := ⟨RX8, "lesser", "(II)I"⟩
abbrev cX8_greater : ByteArray := prog_10_method_8_code
def yX8_greater : MethodName := ⟨RX8, "greater", "(II)I"⟩
abbrev cX8_part : ByteArray := prog_10_method_9_code
def yX8_part : MethodName := ⟨RX8, "part", "(JJI)J"⟩
abbrev cX8_finds : ByteArray := prog_10_method_10_code
def yX8_finds : MethodName := ⟨RX8, "finds", "(I)I"⟩
abbrev cX8_isSheet : ByteArray := prog_10_method_11_code
def yX8_isSheet : MethodName := ⟨RX8, "isSheet", "(I)Z"⟩
abbrev cX8_sheet : ByteArray := prog_10_method_12_code
def yX8_sheet : MethodName := ⟨RX8, "sheet", "(III)I"⟩
abbrev cX8_lose : ByteArray := prog_10_method_13_code
def yX8_lose : MethodName := ⟨RX8, "lose", "(I)I"⟩
abbrev cX8_lacks : ByteArray := prog_10_method_14_code
def yX8_lacks : MethodName := ⟨RX8, "lacks", "(III)I"⟩
abbrev cX8_cut : ByteArray := prog_10_method_15_code
def yX8_cut : MethodName := ⟨RX8, "cut", "(II)I"⟩
abbrev cX8_lay : ByteArray := prog_10_method_16_code
def yX8_lay : MethodName := ⟨RX8, "lay", "(IIII)I"⟩
abbrev cX8_get : ByteArray := prog_10_method_17_code
def yX8_get : MethodName := ⟨RX8, "get", "(III)I"⟩
abbrev cX8_copy : ByteArray := prog_10_method_18_code
def yX8_copy : MethodName := ⟨RX8, "copy", "(IIIII)I"⟩
abbrev cX8_type : ByteArray := prog_10_method_19_code
def yX8_type : MethodName := ⟨RX8, "type", "(II)I"⟩
abbrev cX8_wipe : ByteArray := prog_10_method_20_code
def yX8_wipe : MethodName := ⟨RX8, "wipe", "(I)I"⟩
abbrev cX8_undo : ByteArray := prog_10_method_21_code
def yX8_undo : MethodName := ⟨RX8, "undo", "(I)I"⟩
abbrev cX8_walkerOf : ByteArray := prog_10_method_22_code
def yX8_walkerOf : MethodName := ⟨RX8, "walkerOf", "(II)I"⟩
abbrev cX8_readsWalkers : ByteArray := prog_10_method_23_code
def yX8_readsWalkers : MethodName := ⟨RX8, "readsWalkers", "()I"⟩
abbrev cX8_plain : ByteArray := prog_10_method_24_code
def yX8_plain : MethodName := ⟨RX8, "plain", "()V"⟩
abbrev cX8_readsRoutine : ByteArray := prog_10_method_25_code
def yX8_readsRoutine : MethodName := ⟨RX8, "readsRoutine", "()I"⟩
abbrev cX8_readsText : ByteArray := prog_10_method_26_code
def yX8_readsText : MethodName := ⟨RX8, "readsText", "(I)I"⟩
abbrev cX8_fault : ByteArray := prog_10_method_27_code
def yX8_fault : MethodName := ⟨RX8, "fault", "(I)I"⟩
abbrev cX8_isBeat : ByteArray := prog_10_method_28_code
def yX8_isBeat : MethodName := ⟨RX8, "isBeat", "(I)Z"⟩
abbrev cX8_isWalker : ByteArray := prog_10_method_29_code
def yX8_isWalker : MethodName := ⟨RX8, "isWalker", "(I)Z"⟩
abbrev cX8_walker : ByteArray := prog_10_method_30_code
def yX8_walker : MethodName := ⟨RX8, "walker", "(II)I"⟩
abbrev cX8_routine : ByteArray := prog_10_method_31_code
def yX8_routine : MethodName := ⟨RX8, "routine", "(I)I"⟩
abbrev cX8_isSet : ByteArray := prog_10_method_32_code
def yX8_isSet : MethodName := ⟨RX8, "isSet", "(II)Z"⟩
abbrev cX8_wire : ByteArray := prog_10_method_33_code
def yX8_wire : MethodName := ⟨RX8, "wire", "(II)I"⟩
abbrev cX8_event : ByteArray := prog_10_method_34_code
def yX8_event : MethodName := ⟨RX8, "event", "(III)I"⟩
abbrev cX8_back : ByteArray := prog_10_method_35_code
def yX8_back : MethodName := ⟨RX8, "back", "()I"⟩
abbrev cX8_read : ByteArray := prog_10_method_36_code
def yX8_read : MethodName := ⟨RX8, "read", "(I)I"⟩
abbrev cX8_leans : ByteArray := prog_10_method_37_code
def yX8_leans : MethodName := ⟨RX8, "leans", "(I)V"⟩
abbrev cX8_happens : ByteArray := prog_10_method_38_code
def yX8_happens : MethodName := ⟨RX8, "happens", "(I)V"⟩
abbrev cX8_whoAt : ByteArray := prog_10_method_39_code
def yX8_whoAt : MethodName := ⟨RX8, "whoAt", "(I)I"⟩
abbrev cX8_goes : ByteArray := prog_10_method_40_code
def yX8_goes : MethodName := ⟨RX8, "goes", "(II)V"⟩
abbrev cX8_acting : ByteArray := prog_10_method_41_code
def yX8_acting : MethodName := ⟨RX8, "acting", "(II)V"⟩
abbrev cX8_size : ByteArray := prog_10_method_42_code
def yX8_size : MethodName := ⟨RX8, "size", "(I)I"⟩
abbrev cX8_moves : ByteArray := prog_10_method_43_code
def yX8_moves : MethodName := ⟨RX8, "moves", "(II)V"⟩
abbrev cX8_passes : ByteArray := prog_10_method_44_code
def yX8_passes : MethodName := ⟨RX8, "passes", "(IZ)V"⟩
abbrev cX8_lives : ByteArray := prog_10_method_45_code
def yX8_lives : MethodName := ⟨RX8, "lives", "()V"⟩
abbrev cX8_find : ByteArray := prog_10_method_46_code
def yX8_find : MethodName := ⟨RX8, "find", "()V"⟩
abbrev cX8_at : ByteArray := prog_10_method_47_code
def yX8_at : MethodName := ⟨RX8, "at", "(III)I"⟩
abbrev cX8_lean : ByteArray := prog_10_method_48_code
def yX8_lean : MethodName := ⟨RX8, "lean", "(II)I"⟩
abbrev cX8_seesBy : ByteArray := prog_10_method_49_code
def yX8_seesBy : MethodName := ⟨RX8, "seesBy", "(II)I"⟩
abbrev cX8_sees : ByteArray := prog_10_method_50_code
def yX8_sees : MethodName := ⟨RX8, "sees", "(II)I"⟩
abbrev cX8_sway : ByteArray := prog_10_method_51_code
def yX8_sway : MethodName := ⟨RX8, "sway", "(I)I"⟩
abbrev cX8_endsBy : ByteArray := prog_10_method_52_code
def yX8_endsBy : MethodName := ⟨RX8, "endsBy", "(II)I"⟩
abbrev cX8_ends : ByteArray := prog_10_method_53_code
def yX8_ends : MethodName := ⟨RX8, "ends", "(II)I"⟩
abbrev cX8_many : ByteArray := prog_10_method_54_code
def yX8_many : MethodName := ⟨RX8, "many", "(I)I"⟩
abbrev cX8_sumBy : ByteArray := prog_10_method_55_code
def yX8_sumBy : MethodName := ⟨RX8, "sumBy", "(I)I"⟩
abbrev cX8_sum : ByteArray := prog_10_method_56_code
def yX8_sum : MethodName := ⟨RX8, "sum", "(I)I"⟩
abbrev cX8_firstNow : ByteArray := prog_10_method_57_code
def yX8_firstNow : MethodName := ⟨RX8, "firstNow", "()I"⟩
abbrev cX8_worstNow : ByteArray := prog_10_method_58_code
def yX8_worstNow : MethodName := ⟨RX8, "worstNow", "()I"⟩
abbrev cX8_whoBy : ByteArray := prog_10_method_59_code
def yX8_whoBy : MethodName := ⟨RX8, "whoBy", "(I)I"⟩
abbrev cX8_who : ByteArray := prog_10_method_60_code
def yX8_who : MethodName := ⟨RX8, "who", "(I)I"⟩
abbrev cX8_bareNow : ByteArray := prog_10_method_61_code
def yX8_bareNow : MethodName := ⟨RX8, "bareNow", "()I"⟩
abbrev cX8_bare : ByteArray := prog_10_method_62_code
def yX8_bare : MethodName := ⟨RX8, "bare", "()I"⟩
abbrev cX8_walkerBetter : ByteArray := prog_10_method_63_code
def yX8_walkerBetter : MethodName := ⟨RX8, "walkerBetter", "(III)I"⟩
abbrev cX8_start : ByteArray := prog_10_method_64_code
def yX8_start : MethodName := ⟨RX8, "start", "(II)I"⟩
abbrev cX8_hold : ByteArray := prog_10_method_65_code
def yX8_hold : MethodName := ⟨RX8, "hold", "(II)I"⟩
abbrev cX8_actOf : ByteArray := prog_10_method_66_code
def yX8_actOf : MethodName := ⟨RX8, "actOf", "(II)I"⟩
abbrev cX8_act : ByteArray := prog_10_method_67_code
def yX8_act : MethodName := ⟨RX8, "act", "(II)I"⟩
abbrev cX8_isSpared : ByteArray := prog_10_method_68_code
def yX8_isSpared : MethodName := ⟨RX8, "isSpared", "(I)Z"⟩
abbrev cX8_spareBy : ByteArray := prog_10_method_69_code
def yX8_spareBy : MethodName := ⟨RX8, "spareBy", "(I)I"⟩
abbrev cX8_spare : ByteArray := prog_10_method_70_code
def yX8_spare : MethodName := ⟨RX8, "spare", "(I)I"⟩
abbrev cX8_seen : ByteArray := prog_10_method_71_code
def yX8_seen : MethodName := ⟨RX8, "seen", "(III)I"⟩
abbrev cX8_forget : ByteArray := prog_10_method_72_code
def yX8_forget : MethodName := ⟨RX8, "forget", "()I"⟩
abbrev cX8_isSeen : ByteArray := prog_10_method_73_code
def yX8_isSeen : MethodName := ⟨RX8, "isSeen", "()Z"⟩
abbrev cX8_neverNow : ByteArray := prog_10_method_74_code
def yX8_neverNow : MethodName := ⟨RX8, "neverNow", "()I"⟩
abbrev cX8_never : ByteArray := prog_10_method_75_code
def yX8_never : MethodName := ⟨RX8, "never", "()I"⟩
abbrev cX8_rowOf : ByteArray := prog_10_method_76_code
def yX8_rowOf : MethodName := ⟨RX8, "rowOf", "(I)J"⟩
abbrev cX8_polesOf : ByteArray := prog_10_method_77_code
def yX8_polesOf : MethodName := ⟨RX8, "polesOf", "(I)I"⟩
abbrev cX8_sortOf : ByteArray := prog_10_method_78_code
def yX8_sortOf : MethodName := ⟨RX8, "sortOf", "(I)I"⟩
abbrev cX8_wasOf : ByteArray := prog_10_method_79_code
def yX8_wasOf : MethodName := ⟨RX8, "wasOf", "(II)I"⟩
abbrev cX8_was : ByteArray := prog_10_method_80_code
def yX8_was : MethodName := ⟨RX8, "was", "(II)I"⟩
abbrev cX8_alike : ByteArray := prog_10_method_81_code
def yX8_alike : MethodName := ⟨RX8, "alike", "(II)I"⟩
abbrev cX8_askOf : ByteArray := prog_10_method_82_code
def yX8_askOf : MethodName := ⟨RX8, "askOf", "(I)I"⟩
abbrev cX8_ask : ByteArray := prog_10_method_83_code
def yX8_ask : MethodName := ⟨RX8, "ask", "(I)I"⟩
abbrev cX8_chanceOf : ByteArray := prog_10_method_84_code
def yX8_chanceOf : MethodName := ⟨RX8, "chanceOf", "(III)J"⟩
abbrev cX8_chance : ByteArray := prog_10_method_85_code
def yX8_chance : MethodName := ⟨RX8, "chance", "(III)J"⟩
abbrev cX8_lot : ByteArray := prog_10_method_86_code
def yX8_lot : MethodName := ⟨RX8, "lot", "(I)I"⟩
abbrev cX8_showsOf : ByteArray := prog_10_method_87_code
def yX8_showsOf : MethodName := ⟨RX8, "showsOf", "(III)I"⟩
abbrev cX8_shows : ByteArray := prog_10_method_88_code
def yX8_shows : MethodName := ⟨RX8, "shows", "(III)I"⟩
abbrev cX8_write : ByteArray := prog_10_method_89_code
def yX8_write : MethodName := ⟨RX8, "write", "(II)I"⟩
abbrev cX8_count : ByteArray := prog_10_method_90_code
def yX8_count : MethodName := ⟨RX8, "count", "(I)I"⟩
abbrev cX8_tellsBeat : ByteArray := prog_10_method_91_code
def yX8_tellsBeat : MethodName := ⟨RX8, "tellsBeat", "(JII)J"⟩
abbrev cX8_tellsWalker : ByteArray := prog_10_method_92_code
def yX8_tellsWalker : MethodName := ⟨RX8, "tellsWalker", "(JI)J"⟩
abbrev cX8_digest : ByteArray := prog_10_method_93_code
def yX8_digest : MethodName := ⟨RX8, "digest", "()J"⟩
def RJ9 : String := "java/lang/Math"
abbrev cJ9_abs_0f7a4 : ByteArray := prog_11_method_59_code
def yJ9_abs_0f7a4 : MethodName := ⟨RJ9, "abs", "(I)I"⟩
abbrev cJ9_max_7cf53 : ByteArray := prog_11_method_65_code
def yJ9_max_7cf53 : MethodName := ⟨RJ9, "max", "(II)I"⟩
abbrev cJ9_min_7cf53 : ByteArray := prog_11_method_69_code
def yJ9_min_7cf53 : MethodName := ⟨RJ9, "min", "(II)I"⟩
def RJ10 : String := "java/lang/System"
def RJ7 : String := "java/util/Arrays"
abbrev cJ7_fill_53178 : ByteArray := prog_13_method_103_code
def yJ7_fill_53178 : MethodName := ⟨RJ7, "fill", "([II)V"⟩
def RL : String := "WireWalkersLaw"
abbrev cL_law : ByteArray := code
def yL_law : MethodName := ⟨RL, "law", "([I)Z"⟩
abbrev vwCl : List vw_C := [(RX0, TX0, 4), (RX1, TX1, 4), (RX2, TX2, 15), (RX3, TX3, 4), (RX4, TX4, 2), (RX5, TX5, 12), (RX6, TX6, 3), (RX7, TX7, 16), (RX8, TX8, 33)]
theorem wi_X0 : ∀ w ∈ wsX00, w ∈ lw_tbl := by
  intro w hw
  have h : wsX00 = [232, 234, 236, 238].filterMap (fun i => lw_tbl[i]?) := by decide +kernel
  rw [h] at hw
  obtain ⟨i, -, hi⟩ := List.mem_filterMap.mp hw
  exact List.mem_of_getElem? hi
theorem wi_X1 : ∀ w ∈ wsX10, w ∈ lw_tbl := by
  intro w hw
  have h : wsX10 = [310, 312, 314, 316].filterMap (fun i => lw_tbl[i]?) := by decide +kernel
  rw [h] at hw
  obtain ⟨i, -, hi⟩ := List.mem_filterMap.mp hw
  exact List.mem_of_getElem? hi
theorem wi_X2 : ∀ w ∈ wsX20, w ∈ lw_tbl := by
  intro w hw
  have h : wsX20 = [264, 266, 268, 270, 272, 274, 276, 278, 280, 282, 284, 286, 288, 290, 292].filterMap (fun i => lw_tbl[i]?) := by decide +kernel
  rw [h] at hw
  obtain ⟨i, -, hi⟩ := List.mem_filterMap.mp hw
  exact List.mem_of_getElem? hi
theorem wi_X3 : ∀ w ∈ wsX30, w ∈ lw_tbl := by
  intro w hw
  have h : wsX30 = [187, 189, 191, 193].filterMap (fun i => lw_tbl[i]?) := by decide +kernel
  rw [h] at hw
  obtain ⟨i, -, hi⟩ := List.mem_filterMap.mp hw
  exact List.mem_of_getElem? hi
theorem wi_X4 : ∀ w ∈ wsX40, w ∈ lw_tbl := by
  intro w hw
  have h : wsX40 = [107, 109].filterMap (fun i => lw_tbl[i]?) := by decide +kernel
  rw [h] at hw
  obtain ⟨i, -, hi⟩ := List.mem_filterMap.mp hw
  exact List.mem_of_getElem? hi
theorem wi_X5 : ∀ w ∈ wsX50, w ∈ lw_tbl := by
  intro w hw
  have h : wsX50 = [151, 153, 155, 157, 159, 161, 163, 165, 167, 169, 171, 173].filterMap (fun i => lw_tbl[i]?) := by decide +kernel
  rw [h] at hw
  obtain ⟨i, -, hi⟩ := List.mem_filterMap.mp hw
  exact List.mem_of_getElem? hi
theorem wi_X6 : ∀ w ∈ wsX60, w ∈ lw_tbl := by
  intro w hw
  have h : wsX60 = [214, 216, 218].filterMap (fun i => lw_tbl[i]?) := by decide +kernel
  rw [h] at hw
  obtain ⟨i, -, hi⟩ := List.mem_filterMap.mp hw
  exact List.mem_of_getElem? hi
theorem wi_X7 : ∀ w ∈ wsX70, w ∈ lw_tbl := by
  intro w hw
  have h : wsX70 = [336, 338, 340, 342, 344, 346, 348, 350, 352, 354, 356, 358, 360, 362, 364, 366].filterMap (fun i => lw_tbl[i]?) := by decide +kernel
  rw [h] at hw
  obtain ⟨i, -, hi⟩ := List.mem_filterMap.mp hw
  exact List.mem_of_getElem? hi
theorem wi_X8 : ∀ w ∈ wsX80, w ∈ lw_tbl := by
  intro w hw
  have h : wsX80 = [877, 879, 881, 883, 885, 887, 889, 891, 893, 895, 897, 899, 901, 903, 905, 907, 909, 911, 913, 915, 917, 919, 921, 923, 925, 927, 929, 931, 933, 935, 937, 939, 941].filterMap (fun i => lw_tbl[i]?) := by decide +kernel
  rw [h] at hw
  obtain ⟨i, -, hi⟩ := List.mem_filterMap.mp hw
  exact List.mem_of_getElem? hi
end
section
def isNest : Cond → Bool
  | .fieldLinkNest _ _ _ _ _ _ => true
  | .methodLinkNest _ _ _ _ => true
  | _ => false
def isAC : Cond → Bool
  | .arrayClass _ => true
  | _ => false
def isAO : Cond → Bool
  | .arrayOver (.object _) => true
  | _ => false
def okw (w : Cond) : Bool := (w.onTables && w.keeps) || isNest w || isAC w || isAO w
def tb2 : List Cond := lw_tbl.filter okw
theorem m2 {w : Cond} (h : w ∈ lw_tbl) (ho : okw w = true) : w ∈ tb2 := List.mem_filter.mpr ⟨h, ho⟩
theorem wj_X0 : ∀ w ∈ wsX00, w ∈ tb2 := fun w hw => m2 (wi_X0 w hw) (List.all_eq_true.mp (show wsX00.all okw = true by decide +kernel) w hw)
theorem wj_X1 : ∀ w ∈ wsX10, w ∈ tb2 := fun w hw => m2 (wi_X1 w hw) (List.all_eq_true.mp (show wsX10.all okw = true by decide +kernel) w hw)
theorem wj_X2 : ∀ w ∈ wsX20, w ∈ tb2 := fun w hw => m2 (wi_X2 w hw) (List.all_eq_true.mp (show wsX20.all okw = true by decide +kernel) w hw)
theorem wj_X3 : ∀ w ∈ wsX30, w ∈ tb2 := fun w hw => m2 (wi_X3 w hw) (List.all_eq_true.mp (show wsX30.all okw = true by decide +kernel) w hw)
theorem wj_X4 : ∀ w ∈ wsX40, w ∈ tb2 := fun w hw => m2 (wi_X4 w hw) (List.all_eq_true.mp (show wsX40.all okw = true by decide +kernel) w hw)
theorem wj_X5 : ∀ w ∈ wsX50, w ∈ tb2 := fun w hw => m2 (wi_X5 w hw) (List.all_eq_true.mp (show wsX50.all okw = true by decide +kernel) w hw)
theorem wj_X6 : ∀ w ∈ wsX60, w ∈ tb2 := fun w hw => m2 (wi_X6 w hw) (List.all_eq_true.mp (show wsX60.all okw = true by decide +kernel) w hw)
theorem wj_X7 : ∀ w ∈ wsX70, w ∈ tb2 := fun w hw => m2 (wi_X7 w hw) (List.all_eq_true.mp (show wsX70.all okw = true by decide +kernel) w hw)
theorem wj_X8 : ∀ w ∈ wsX80, w ∈ tb2 := fun w hw => m2 (wi_X8 w hw) (List.all_eq_true.mp (show wsX80.all okw = true by decide +kernel) w hw)
/-! the world: 93 cells of a fixed shape; ints and longs of it are the heap's picture -/
abbrev Hp : Type := (Nat → Nat → Int32) × (Nat → Nat → Int64)
def skL : List Nat := [7, 4, 9, 4, 9, 5, 9, 9, 9, 9, 9, 9, 9, 3, 9, 9, 9, 2, 6, 9, 9, 9, 0, 9, 9, 9, 9, 9, 9, 9, 9, 9, 9, 9, 9, 9, 2, 6, 9, 9, 9, 0, 9, 9, 9, 9, 9, 9, 9, 9, 9, 9, 9, 9, 9, 9, 9, 10, 9, 11, 1, 9, 1, 9, 1, 9, 1, 9, 8, 9, 9, 9, 9, 9, 9, 9, 9, 9, 9, 9, 9, 9, 9, 9, 9, 9, 9, 9, 9, 9, 9, 9, 10]
def slL : List Nat := [0, 0, 23, 0, 24, 0, 6, 6, 6, 24, 8, 8, 8, 0, 8, 8, 8, 0, 0, 24, 24, 24, 0, 144, 144, 144, 24, 6, 6, 6, 6, 6, 6, 6, 6, 6, 0, 0, 24, 24, 24, 0, 144, 144, 144, 24, 6, 6, 6, 6, 6, 6, 6, 6, 6, 24, 256, 240, 2, 4, 0, 60, 0, 60, 0, 60, 0, 60, 0, 4, 4, 240, 60, 48, 2, 18, 24, 3, 24, 6, 6, 6, 6, 6, 6, 6, 6, 144, 144, 144, 24, 24, 240]
def srL : List (List Nat) := [[1, 3, 5, 13, 17, 36, 55, 56, 57, 58, 59, 0, 0, 0, 0, 0], [2, 0], [], [4, 0], [], [6, 7, 8, 9, 10, 11, 12, 0, 0, 0, 0, 0], [], [], [], [], [], [], [], [14, 15, 16, 0], [], [], [], [18, 22, 27, 28, 29, 30, 31, 32, 33, 34, 35, 0, 0, 0, 0], [19, 20, 21], [], [], [], [23, 24, 25, 26], [], [], [], [], [], [], [], [], [], [], [], [], [], [37, 41, 46, 47, 48, 49, 50, 51, 52, 53, 54, 0, 0, 0, 0], [38, 39, 40], [], [], [], [42, 43, 44, 45], [], [], [], [], [], [], [], [], [], [], [], [], [], [], [], [], [], [60, 62, 64, 66], [61, 0, 0, 0], [], [63, 0, 0, 0], [], [65, 0, 0, 0], [], [67, 0, 0, 0], [], [69, 70, 71, 72, 0, 73, 74, 0, 75, 0, 76, 77, 0, 78, 0, 79, 80, 81, 82, 83, 84, 85, 86, 87, 88, 89, 90, 0, 0, 0, 91, 92, 0], [], [], [], [], [], [], [], [], [], [], [], [], [], [], [], [], [], [], [], [], [], [], [], []]
def sk (k : Nat) : Nat := skL.getD k 99
def sl (k : Nat) : Nat := slL.getD k 0
def sr (k j : Nat) : Nat := (srL.getD k []).getD j 0
def nfL : List Nat := [4, 4, 15, 4, 2, 12, 3, 16, 33]
def nf (c : Nat) : Nat := nfL.getD c 0
def isRL : List (List Bool) := [[true, true, true, true], [true, false, false, false], [true, true, true, true, true, true, true, true, true, true, true, false, false, false, false], [true, true, true, false], [true, false], [true, true, true, true, true, true, true, false, false, false, false, false], [true, true, true], [true, true, true, true, true, true, true, true, true, true, true, false, false, false, false, false], [true, true, true, true, false, true, true, false, true, false, true, true, false, true, false, true, true, true, true, true, true, true, true, true, true, true, true, false, false, false, true, true, false]]
def isR (c j : Nat) : Bool := (isRL.getD c []).getD j false
abbrev C3 : Type := ClassId × ClassId × ClassId
def mv (ad : Nat → Nat) : Value → Value
  | .ref a => .ref (ad a)
  | v => v
def mp (ad : Nat → Nat) (q : Nat × Value) : Nat × Value := (q.1, mv ad q.2)
def fv (ad : Nat → Nat) (h : Hp) (k j : Nat) : Value := if isR (sk k) j = true then .ref (ad (sr k j)) else .int (h.1 k j)
def ce (ad : Nat → Nat) (cs : C3) (h : Hp) (k : Nat) : va_E :=
  if sk k = 9 then .inl (cs.1, sl k, .inl (h.1 k))
  else if sk k = 10 then .inl (cs.2.1, sl k, .inr (.inl (h.2 k)))
  else if sk k = 11 then .inl (cs.2.2, sl k, .inr (.inr (.inr (.inr (fun i => some (ad (sr k i)))))))
  else .inr (sk k, (List.range (nf (sk k))).map (fv ad h k))
def wld (ad : Nat → Nat) (cs : C3) (h : Hp) : va_W := (List.range 93).map fun k => (ad k, ce ad cs h k)
def ty3 (cs : C3) : List (ClassId × FieldType) := [(cs.1, .int), (cs.2.1, .long), (cs.2.2, .object "WireWalkers$Sheet")]
def ij (ad : Nat → Nat) : Prop := ∀ i j, i < 93 → j < 93 → ad i = ad j → i = j
def inW (ad : Nat → Nat) : Nat → Prop := fun q => ∃ k, k < 93 ∧ q = ad k
def uf (h : Hp) (k j : Nat) (v : Int32) : Hp := (fun a => if a = k then upd (h.1 a) j v else h.1 a, h.2)
def ul (h : Hp) (k j : Nat) (v : Int64) : Hp := (h.1, fun a => if a = k then vp_updL (h.2 a) j v else h.2 a)
def ux (h : Hp) (k : Nat) (i : Int32) (v : Int32) : Hp := uf h k i.toNatClampNeg v
def uy (h : Hp) (k : Nat) (i : Int32) (v : Int64) : Hp := ul h k i.toNatClampNeg v
def ia (h : Hp) (k : Nat) (i : Int32) : Int32 := h.1 k i.toNatClampNeg
def la (h : Hp) (k : Nat) (i : Int32) : Int64 := h.2 k i.toNatClampNeg
def ucp (h : Hp) (a b : Nat) (i j n : Int32) : Hp := (fun z => if z = b then va_cpy (h.1 a) (h.1 b) i.toNatClampNeg j.toNatClampNeg n.toNatClampNeg else h.1 z, h.2)
theorem mv_cat (ad : Nat → Nat) (v : Value) : (mv ad v).category = v.category := by cases v <;> rfl
theorem sk_lt {k c : Nat} (h : sk k = c) (hc : c < 99) : k < 93 := by
  apply Nat.lt_of_not_le
  intro hk
  have : sk k = 99 := by
    unfold sk
    rw [List.getD_eq_getElem?_getD, List.getElem?_eq_none (by exact hk)]
    rfl
  omega
theorem wld_get {ad : Nat → Nat} {cs : C3} {h : Hp} {k : Nat} (hk : k < 93) : (wld ad cs h)[k]? = some (ad k, ce ad cs h k) := by
  unfold wld
  rw [List.getElem?_map, List.getElem?_range hk]
  rfl
theorem wld_D {ad : Nat → Nat} {cs : C3} {h : Hp} {A : Nat → Prop} (hi : ij ad) (hA : ∀ k, k < 93 → A (ad k)) : va_D A (wld ad cs h) := by
  have key : ∀ (k : Nat) (q : Nat × va_E), (wld ad cs h)[k]? = some q → k < 93 ∧ q.1 = ad k := by
    intro k q hq
    by_cases hk : k < 93
    · rw [wld_get hk] at hq
      cases hq
      exact ⟨hk, rfl⟩
    · rw [List.getElem?_eq_none (by simp [wld]; omega)] at hq
      cases hq
  refine ⟨fun i j p q hp hq e => ?_, fun k q hq => ?_⟩
  · obtain ⟨a1, a2⟩ := key i p hp
    obtain ⟨b1, b2⟩ := key j q hq
    exact hi i j a1 b1 (by rw [← a2, ← b2, e])
  · obtain ⟨a1, a2⟩ := key k q hq
    rw [a2]
    exact hA k a1
theorem wld_set {ad : Nat → Nat} {cs : C3} {h h' : Hp} {k : Nat} {e : va_E} (hk : k < 93) (he : e = ce ad cs h' k) (ho : ∀ j, j ≠ k → ce ad cs h' j = ce ad cs h j) : (wld ad cs h).set k (ad k, e) = wld ad cs h' := by
  apply List.ext_getElem?
  intro j
  by_cases hj : j = k
  · subst hj
    rw [List.getElem?_set_self (by simp [wld]; exact hk), wld_get hk, he]
  · rw [List.getElem?_set_ne (Ne.symm hj)]
    by_cases hj2 : j < 93
    · rw [wld_get hj2, wld_get hj2, ho j hj]
    · rw [List.getElem?_eq_none (by simp [wld]; omega), List.getElem?_eq_none (by simp [wld]; omega)]
theorem ce_ext {ad : Nat → Nat} {cs : C3} {h h' : Hp} {a : Nat} (e1 : h'.1 a = h.1 a) (e2 : h'.2 a = h.2 a) : ce ad cs h' a = ce ad cs h a := by
  have e3 : fv ad h' a = fv ad h a := by funext j; unfold fv; rw [e1]
  unfold ce
  rw [e1, e2, e3]
theorem ce_obj {ad : Nat → Nat} {cs : C3} {h : Hp} {k c : Nat} (hs : sk k = c) (hc : c < 9) : ce ad cs h k = .inr (c, (List.range (nf c)).map (fv ad h k)) := by
  unfold ce
  rw [hs, if_neg (by omega), if_neg (by omega), if_neg (by omega)]
theorem ce_int {ad : Nat → Nat} {cs : C3} {h : Hp} {k : Nat} (hs : sk k = 9) : ce ad cs h k = .inl (cs.1, sl k, .inl (h.1 k)) := by
  unfold ce
  rw [if_pos hs]
theorem ce_long {ad : Nat → Nat} {cs : C3} {h : Hp} {k : Nat} (hs : sk k = 10) : ce ad cs h k = .inl (cs.2.1, sl k, .inr (.inl (h.2 k))) := by
  unfold ce
  rw [hs, if_neg (by decide), if_pos rfl]
theorem ce_ref {ad : Nat → Nat} {cs : C3} {h : Hp} {k : Nat} (hs : sk k = 11) : ce ad cs h k = .inl (cs.2.2, sl k, .inr (.inr (.inr (.inr (fun i => some (ad (sr k i))))))) := by
  unfold ce
  rw [hs, if_neg (by decide), if_neg (by decide), if_pos rfl]
theorem uf_ne {h : Hp} {k j a : Nat} {v : Int32} (ha : a ≠ k) : (uf h k j v).1 a = h.1 a := by simp [uf, ha]
theorem uf_at {h : Hp} {k j : Nat} {v : Int32} : (uf h k j v).1 k = upd (h.1 k) j v := by simp [uf]
theorem uf_2 {h : Hp} {k j : Nat} {v : Int32} : (uf h k j v).2 = h.2 := rfl
theorem ul_ne {h : Hp} {k j a : Nat} {v : Int64} (ha : a ≠ k) : (ul h k j v).2 a = h.2 a := by simp [ul, ha]
theorem ul_at {h : Hp} {k j : Nat} {v : Int64} : (ul h k j v).2 k = vp_updL (h.2 k) j v := by simp [ul]
theorem ul_1 {h : Hp} {k j : Nat} {v : Int64} : (ul h k j v).1 = h.1 := rfl
theorem set_fld {ad : Nat → Nat} {h : Hp} {k c j : Nat} {v : Int32} (hs : sk k = c) (hj : j < nf c) (hr : isR c j = false) : ((List.range (nf c)).map (fv ad h k)).set j (.int v) = (List.range (nf c)).map (fv ad (uf h k j v) k) := by
  apply List.ext_getElem?
  intro i
  by_cases hi : i = j
  · subst hi
    rw [List.getElem?_set_self (by simp; exact hj), List.getElem?_map, List.getElem?_range hj]
    simp [fv, hs, hr, uf_at, upd]
  · rw [List.getElem?_set_ne (Ne.symm hi), List.getElem?_map, List.getElem?_map]
    by_cases h2 : i < nf c
    · rw [List.getElem?_range h2]
      simp [fv, uf_at, upd, hi]
    · rw [List.getElem?_eq_none (by simp; omega)]
      rfl
/-! the judgement -/
abbrev Kx (Out : Type) : Type _ := (Program × Launch × Env × Room × State × MethodId × Array Value × List Frame × Method × Code) × (Nat → Nat) × va_G × C3 × (Nat → Prop) × Nat × Nat × Nat × (Out → State → Prop)
section KX
variable {Out : Type}
abbrev kp (κ : Kx Out) : Program := κ.1.1
abbrev kl (κ : Kx Out) : Launch := κ.1.2.1
abbrev ke (κ : Kx Out) : Env := κ.1.2.2.1
abbrev kR (κ : Kx Out) : Room := κ.1.2.2.2.1
abbrev ks (κ : Kx Out) : State := κ.1.2.2.2.2.1
abbrev km (κ : Kx Out) : MethodId := κ.1.2.2.2.2.2.1
abbrev ka (κ : Kx Out) : Array Value := κ.1.2.2.2.2.2.2.1
abbrev kb (κ : Kx Out) : List Frame := κ.1.2.2.2.2.2.2.2.1
abbrev kme (κ : Kx Out) : Method := κ.1.2.2.2.2.2.2.2.2.1
abbrev kc (κ : Kx Out) : Code := κ.1.2.2.2.2.2.2.2.2.2
abbrev kad (κ : Kx Out) : Nat → Nat := κ.2.1
abbrev kD (κ : Kx Out) : va_G := κ.2.2.1
abbrev kcs (κ : Kx Out) : C3 := κ.2.2.2.1
abbrev kA (κ : Kx Out) : Nat → Prop := κ.2.2.2.2.1
abbrev kn (κ : Kx Out) : Nat := κ.2.2.2.2.2.1
abbrev kcl (κ : Kx Out) : Nat := κ.2.2.2.2.2.2.1
abbrev ksl (κ : Kx Out) : Nat := κ.2.2.2.2.2.2.2.1
abbrev kQ (κ : Kx Out) : Out → State → Prop := κ.2.2.2.2.2.2.2.2
abbrev Wk (κ : Kx Out) (Q : State → Prop) (H : Heap) (locs : List Loc) (g : JFrame) : Prop := W (kp κ) (kl κ) (ke κ) (kR κ) (ks κ) (km κ) (ka κ) (kb κ) (kme κ) (kc κ) H locs (kcl κ) (ksl κ) Q g
def Xz (κ : Kx Out) (o : Option Out) (pc : Nat) (ls : List (Nat × Value)) (st : List Value) (h : Hp) : Prop :=
  ∀ out, o = some out → ∀ (H : Heap) (locs : List Loc) (arr : Array Slot), va_P (kD κ) vwCl (wld (kad κ) (kcs κ) h) H → va_S (kA κ) (ks κ).heap H locs → lv_has arr (kn κ) (ls.map (mp (kad κ))) → Wk κ (kQ κ out) H locs (F0 (km κ) pc arr (st.map (mv (kad κ))))
def Gd (κ : Kx Out) (cc : ByteArray) (own : String) (n : Nat) : Prop :=
  (kp κ).tables.exec = Jvm.exec ∧ (kc κ).code = cc ∧ (kc κ).maxLocals = kn κ ∧ (ks κ).vm.findClass own = some (km κ).cls ∧ (∀ w ∈ tb2, w.before (ka κ) (ks κ) = true) ∧ va_K (kD κ) vwCl (ty3 (kcs κ)) (ks κ) ∧ ij (kad κ) ∧ (∀ k, k < 93 → kA κ (kad κ k)) ∧ n ≤ (kR κ).frames ∧ 40 * n ≤ (kR κ).locals ∧ kcl κ ≤ (kR κ).cells ∧ ksl κ ≤ (kR κ).slots ∧ (kme κ).locks = false
variable {κ : Kx Out} {cc : ByteArray} {own : String} {n : Nat}
theorem Gd.x (C : Gd κ cc own n) : (kp κ).tables.exec = Jvm.exec := C.1
theorem Gd.b (C : Gd κ cc own n) : (kc κ).code = cc := C.2.1
theorem Gd.ml (C : Gd κ cc own n) : (kc κ).maxLocals = kn κ := C.2.2.1
theorem Gd.ow (C : Gd κ cc own n) : (ks κ).vm.findClass own = some (km κ).cls := C.2.2.2.1
theorem Gd.ts (C : Gd κ cc own n) : ∀ w ∈ tb2, w.before (ka κ) (ks κ) = true := C.2.2.2.2.1
theorem Gd.K (C : Gd κ cc own n) : va_K (kD κ) vwCl (ty3 (kcs κ)) (ks κ) := C.2.2.2.2.2.1
theorem Gd.ij (C : Gd κ cc own n) : ij (kad κ) := C.2.2.2.2.2.2.1
theorem Gd.A (C : Gd κ cc own n) : ∀ k, k < 93 → kA κ (kad κ k) := C.2.2.2.2.2.2.2.1
theorem Gd.fr (C : Gd κ cc own n) : n ≤ (kR κ).frames := C.2.2.2.2.2.2.2.2.1
theorem Gd.lo (C : Gd κ cc own n) : 40 * n ≤ (kR κ).locals := C.2.2.2.2.2.2.2.2.2.1
theorem Gd.cl (C : Gd κ cc own n) : kcl κ ≤ (kR κ).cells := C.2.2.2.2.2.2.2.2.2.2.1
theorem Gd.sl (C : Gd κ cc own n) : ksl κ ≤ (kR κ).slots := C.2.2.2.2.2.2.2.2.2.2.2.1
theorem Gd.lk (C : Gd κ cc own n) : (kme κ).locks = false := C.2.2.2.2.2.2.2.2.2.2.2.2
theorem Gd.D (C : Gd κ cc own n) (h : Hp) : va_D (kA κ) (wld (kad κ) (kcs κ) h) := wld_D C.ij C.A
end KX
/-! the pieces that the answers are written with -/
def nm {α β : Type} (e : α) (T : α → β) : β := T e
def ck {α : Type} (i : Int32) (n : Nat) (T : Option α) : Option α := if ¬ (i < 0 ∨ n ≤ i.toNatClampNeg) then T else none
def cn {α : Type} (b : Prop) [Decidable b] (T : Option α) : Option α := if b then none else T
def cy {α : Type} (b : Prop) [Decidable b] (T : Option α) : Option α := if b then T else none
def bnd {α β : Type} (o : Option (Hp × α)) (T : Hp → α → Option β) : Option β := match o with
  | some (h, a) => T h a
  | none => none
def bdv {β : Type} (o : Option Hp) (T : Hp → Option β) : Option β := match o with
  | some h => T h
  | none => none
def bdr {α β : Type} (o : Option α) (T : α → Option β) : Option β := match o with
  | some a => T a
  | none => none
def FU : Nat := 1000
theorem nm_eq {α β : Type} (e : α) (T : α → β) : nm e T = T e := rfl
theorem bnd_some {α β : Type} (h : Hp) (a : α) (T : Hp → α → Option β) : bnd (some (h, a)) T = T h a := rfl
theorem bdv_some {β : Type} (h : Hp) (T : Hp → Option β) : bdv (some h) T = T h := rfl
theorem bdr_some {α β : Type} (a : α) (T : α → Option β) : bdr (some a) T = T a := rfl
def fx1 {A1 Out : Type} (n : Nat) (F : (A1 → Option Out) → A1 → Option Out) : A1 → Option Out := match n with
  | 0 => fun _ => none
  | m + 1 => F (fx1 m F)
theorem fx1_succ {A1 Out : Type} (n : Nat) (F : (A1 → Option Out) → A1 → Option Out) (a1 : A1) : fx1 (n + 1) F a1 = F (fx1 n F) a1 := rfl
theorem fx1_pos {A1 Out : Type} {n : Nat} (hn : 0 < n) (F : (A1 → Option Out) → A1 → Option Out) (a1 : A1) : fx1 n F a1 = F (fx1 (n - 1) F) a1 := by
  cases n with
  | zero => omega
  | succ n => rfl
theorem x_fx1 {A1 Out : Type} {κ : Kx Out} {n pc : Nat} {F : (A1 → Option Out) → A1 → Option Out} {ls : A1 → List (Nat × Value)} {st : A1 → List Value} {hh : A1 → Hp}
    (H : ∀ self : A1 → Option Out, (∀ a1, Xz κ (self a1) pc (ls a1) (st a1) (hh a1)) → ∀ a1, Xz κ (F self a1) pc (ls a1) (st a1) (hh a1)) {a1 : A1} : Xz κ (fx1 n F a1) pc (ls a1) (st a1) (hh a1) := by
  revert a1
  induction n with
  | zero => intro a1 out ho; cases ho
  | succ n ih => exact @(H (fx1 n F) (@ih))
def lt1 {A1 Out : Type} (k : A1 → Option Out) (b : (A1 → Option Out) → Option Out) : Option Out := b k
theorem lt1_eq {A1 Out : Type} (k : A1 → Option Out) (b : (A1 → Option Out) → Option Out) : lt1 k b = b k := rfl
theorem x_lt1 {A1 Out : Type} {κ : Kx Out} {pc q : Nat} {l0 : List (Nat × Value)} {s0 : List Value} {h0 : Hp} {k : A1 → Option Out} {b : (A1 → Option Out) → Option Out} {ls : A1 → List (Nat × Value)} {st : A1 → List Value} {hh : A1 → Hp}
    (J : ∀ a1, Xz κ (k a1) q (ls a1) (st a1) (hh a1)) (B : ∀ k : A1 → Option Out, (∀ a1, Xz κ (k a1) q (ls a1) (st a1) (hh a1)) → Xz κ (b k) pc l0 s0 h0) : Xz κ (lt1 k b) pc l0 s0 h0 := B k J
def fx2 {A1 A2 Out : Type} (n : Nat) (F : (A1 → A2 → Option Out) → A1 → A2 → Option Out) : A1 → A2 → Option Out := match n with
  | 0 => fun _ _ => none
  | m + 1 => F (fx2 m F)
theorem fx2_succ {A1 A2 Out : Type} (n : Nat) (F : (A1 → A2 → Option Out) → A1 → A2 → Option Out) (a1 : A1) (a2 : A2) : fx2 (n + 1) F a1 a2 = F (fx2 n F) a1 a2 := rfl
theorem fx2_pos {A1 A2 Out : Type} {n : Nat} (hn : 0 < n) (F : (A1 → A2 → Option Out) → A1 → A2 → Option Out) (a1 : A1) (a2 : A2) : fx2 n F a1 a2 = F (fx2 (n - 1) F) a1 a2 := by
  cases n with
  | zero => omega
  | succ n => rfl
theorem x_fx2 {A1 A2 Out : Type} {κ : Kx Out} {n pc : Nat} {F : (A1 → A2 → Option Out) → A1 → A2 → Option Out} {ls : A1 → A2 → List (Nat × Value)} {st : A1 → A2 → List Value} {hh : A1 → A2 → Hp}
    (H : ∀ self : A1 → A2 → Option Out, (∀ a1 a2, Xz κ (self a1 a2) pc (ls a1 a2) (st a1 a2) (hh a1 a2)) → ∀ a1 a2, Xz κ (F self a1 a2) pc (ls a1 a2) (st a1 a2) (hh a1 a2)) {a1 : A1} {a2 : A2} : Xz κ (fx2 n F a1 a2) pc (ls a1 a2) (st a1 a2) (hh a1 a2) := by
  revert a1 a2
  induction n with
  | zero => intro a1 a2 out ho; cases ho
  | succ n ih => exact @(H (fx2 n F) (@ih))
def lt2 {A1 A2 Out : Type} (k : A1 → A2 → Option Out) (b : (A1 → A2 → Option Out) → Option Out) : Option Out := b k
theorem lt2_eq {A1 A2 Out : Type} (k : A1 → A2 → Option Out) (b : (A1 → A2 → Option Out) → Option Out) : lt2 k b = b k := rfl
theorem x_lt2 {A1 A2 Out : Type} {κ : Kx Out} {pc q : Nat} {l0 : List (Nat × Value)} {s0 : List Value} {h0 : Hp} {k : A1 → A2 → Option Out} {b : (A1 → A2 → Option Out) → Option Out} {ls : A1 → A2 → List (Nat × Value)} {st : A1 → A2 → List Value} {hh : A1 → A2 → Hp}
    (J : ∀ a1 a2, Xz κ (k a1 a2) q (ls a1 a2) (st a1 a2) (hh a1 a2)) (B : ∀ k : A1 → A2 → Option Out, (∀ a1 a2, Xz κ (k a1 a2) q (ls a1 a2) (st a1 a2) (hh a1 a2)) → Xz κ (b k) pc l0 s0 h0) : Xz κ (lt2 k b) pc l0 s0 h0 := B k J
def fx3 {A1 A2 A3 Out : Type} (n : Nat) (F : (A1 → A2 → A3 → Option Out) → A1 → A2 → A3 → Option Out) : A1 → A2 → A3 → Option Out := match n with
  | 0 => fun _ _ _ => none
  | m + 1 => F (fx3 m F)
theorem fx3_succ {A1 A2 A3 Out : Type} (n : Nat) (F : (A1 → A2 → A3 → Option Out) → A1 → A2 → A3 → Option Out) (a1 : A1) (a2 : A2) (a3 : A3) : fx3 (n + 1) F a1 a2 a3 = F (fx3 n F) a1 a2 a3 := rfl
theorem fx3_pos {A1 A2 A3 Out : Type} {n : Nat} (hn : 0 < n) (F : (A1 → A2 → A3 → Option Out) → A1 → A2 → A3 → Option Out) (a1 : A1) (a2 : A2) (a3 : A3) : fx3 n F a1 a2 a3 = F (fx3 (n - 1) F) a1 a2 a3 := by
  cases n with
  | zero => omega
  | succ n => rfl
theorem x_fx3 {A1 A2 A3 Out : Type} {κ : Kx Out} {n pc : Nat} {F : (A1 → A2 → A3 → Option Out) → A1 → A2 → A3 → Option Out} {ls : A1 → A2 → A3 → List (Nat × Value)} {st : A1 → A2 → A3 → List Value} {hh : A1 → A2 → A3 → Hp}
    (H : ∀ self : A1 → A2 → A3 → Option Out, (∀ a1 a2 a3, Xz κ (self a1 a2 a3) pc (ls a1 a2 a3) (st a1 a2 a3) (hh a1 a2 a3)) → ∀ a1 a2 a3, Xz κ (F self a1 a2 a3) pc (ls a1 a2 a3) (st a1 a2 a3) (hh a1 a2 a3)) {a1 : A1} {a2 : A2} {a3 : A3} : Xz κ (fx3 n F a1 a2 a3) pc (ls a1 a2 a3) (st a1 a2 a3) (hh a1 a2 a3) := by
  revert a1 a2 a3
  induction n with
  | zero => intro a1 a2 a3 out ho; cases ho
  | succ n ih => exact @(H (fx3 n F) (@ih))
def lt3 {A1 A2 A3 Out : Type} (k : A1 → A2 → A3 → Option Out) (b : (A1 → A2 → A3 → Option Out) → Option Out) : Option Out := b k
theorem lt3_eq {A1 A2 A3 Out : Type} (k : A1 → A2 → A3 → Option Out) (b : (A1 → A2 → A3 → Option Out) → Option Out) : lt3 k b = b k := rfl
theorem x_lt3 {A1 A2 A3 Out : Type} {κ : Kx Out} {pc q : Nat} {l0 : List (Nat × Value)} {s0 : List Value} {h0 : Hp} {k : A1 → A2 → A3 → Option Out} {b : (A1 → A2 → A3 → Option Out) → Option Out} {ls : A1 → A2 → A3 → List (Nat × Value)} {st : A1 → A2 → A3 → List Value} {hh : A1 → A2 → A3 → Hp}
    (J : ∀ a1 a2 a3, Xz κ (k a1 a2 a3) q (ls a1 a2 a3) (st a1 a2 a3) (hh a1 a2 a3)) (B : ∀ k : A1 → A2 → A3 → Option Out, (∀ a1 a2 a3, Xz κ (k a1 a2 a3) q (ls a1 a2 a3) (st a1 a2 a3) (hh a1 a2 a3)) → Xz κ (b k) pc l0 s0 h0) : Xz κ (lt3 k b) pc l0 s0 h0 := B k J
def fx4 {A1 A2 A3 A4 Out : Type} (n : Nat) (F : (A1 → A2 → A3 → A4 → Option Out) → A1 → A2 → A3 → A4 → Option Out) : A1 → A2 → A3 → A4 → Option Out := match n with
  | 0 => fun _ _ _ _ => none
  | m + 1 => F (fx4 m F)
theorem fx4_succ {A1 A2 A3 A4 Out : Type} (n : Nat) (F : (A1 → A2 → A3 → A4 → Option Out) → A1 → A2 → A3 → A4 → Option Out) (a1 : A1) (a2 : A2) (a3 : A3) (a4 : A4) : fx4 (n + 1) F a1 a2 a3 a4 = F (fx4 n F) a1 a2 a3 a4 := rfl
theorem fx4_pos {A1 A2 A3 A4 Out : Type} {n : Nat} (hn : 0 < n) (F : (A1 → A2 → A3 → A4 → Option Out) → A1 → A2 → A3 → A4 → Option Out) (a1 : A1) (a2 : A2) (a3 : A3) (a4 : A4) : fx4 n F a1 a2 a3 a4 = F (fx4 (n - 1) F) a1 a2 a3 a4 := by
  cases n with
  | zero => omega
  | succ n => rfl
theorem x_fx4 {A1 A2 A3 A4 Out : Type} {κ : Kx Out} {n pc : Nat} {F : (A1 → A2 → A3 → A4 → Option Out) → A1 → A2 → A3 → A4 → Option Out} {ls : A1 → A2 → A3 → A4 → List (Nat × Value)} {st : A1 → A2 → A3 → A4 → List Value} {hh : A1 → A2 → A3 → A4 → Hp}
    (H : ∀ self : A1 → A2 → A3 → A4 → Option Out, (∀ a1 a2 a3 a4, Xz κ (self a1 a2 a3 a4) pc (ls a1 a2 a3 a4) (st a1 a2 a3 a4) (hh a1 a2 a3 a4)) → ∀ a1 a2 a3 a4, Xz κ (F self a1 a2 a3 a4) pc (ls a1 a2 a3 a4) (st a1 a2 a3 a4) (hh a1 a2 a3 a4)) {a1 : A1} {a2 : A2} {a3 : A3} {a4 : A4} : Xz κ (fx4 n F a1 a2 a3 a4) pc (ls a1 a2 a3 a4) (st a1 a2 a3 a4) (hh a1 a2 a3 a4) := by
  revert a1 a2 a3 a4
  induction n with
  | zero => intro a1 a2 a3 a4 out ho; cases ho
  | succ n ih => exact @(H (fx4 n F) (@ih))
def lt4 {A1 A2 A3 A4 Out : Type} (k : A1 → A2 → A3 → A4 → Option Out) (b : (A1 → A2 → A3 → A4 → Option Out) → Option Out) : Option Out := b k
theorem lt4_eq {A1 A2 A3 A4 Out : Type} (k : A1 → A2 → A3 → A4 → Option Out) (b : (A1 → A2 → A3 → A4 → Option Out) → Option Out) : lt4 k b = b k := rfl
theorem x_lt4 {A1 A2 A3 A4 Out : Type} {κ : Kx Out} {pc q : Nat} {l0 : List (Nat × Value)} {s0 : List Value} {h0 : Hp} {k : A1 → A2 → A3 → A4 → Option Out} {b : (A1 → A2 → A3 → A4 → Option Out) → Option Out} {ls : A1 → A2 → A3 → A4 → List (Nat × Value)} {st : A1 → A2 → A3 → A4 → List Value} {hh : A1 → A2 → A3 → A4 → Hp}
    (J : ∀ a1 a2 a3 a4, Xz κ (k a1 a2 a3 a4) q (ls a1 a2 a3 a4) (st a1 a2 a3 a4) (hh a1 a2 a3 a4)) (B : ∀ k : A1 → A2 → A3 → A4 → Option Out, (∀ a1 a2 a3 a4, Xz κ (k a1 a2 a3 a4) q (ls a1 a2 a3 a4) (st a1 a2 a3 a4) (hh a1 a2 a3 a4)) → Xz κ (b k) pc l0 s0 h0) : Xz κ (lt4 k b) pc l0 s0 h0 := B k J
def fx5 {A1 A2 A3 A4 A5 Out : Type} (n : Nat) (F : (A1 → A2 → A3 → A4 → A5 → Option Out) → A1 → A2 → A3 → A4 → A5 → Option Out) : A1 → A2 → A3 → A4 → A5 → Option Out := match n with
  | 0 => fun _ _ _ _ _ => none
  | m + 1 => F (fx5 m F)
theorem fx5_succ {A1 A2 A3 A4 A5 Out : Type} (n : Nat) (F : (A1 → A2 → A3 → A4 → A5 → Option Out) → A1 → A2 → A3 → A4 → A5 → Option Out) (a1 : A1) (a2 : A2) (a3 : A3) (a4 : A4) (a5 : A5) : fx5 (n + 1) F a1 a2 a3 a4 a5 = F (fx5 n F) a1 a2 a3 a4 a5 := rfl
theorem fx5_pos {A1 A2 A3 A4 A5 Out : Type} {n : Nat} (hn : 0 < n) (F : (A1 → A2 → A3 → A4 → A5 → Option Out) → A1 → A2 → A3 → A4 → A5 → Option Out) (a1 : A1) (a2 : A2) (a3 : A3) (a4 : A4) (a5 : A5) : fx5 n F a1 a2 a3 a4 a5 = F (fx5 (n - 1) F) a1 a2 a3 a4 a5 := by
  cases n with
  | zero => omega
  | succ n => rfl
theorem x_fx5 {A1 A2 A3 A4 A5 Out : Type} {κ : Kx Out} {n pc : Nat} {F : (A1 → A2 → A3 → A4 → A5 → Option Out) → A1 → A2 → A3 → A4 → A5 → Option Out} {ls : A1 → A2 → A3 → A4 → A5 → List (Nat × Value)} {st : A1 → A2 → A3 → A4 → A5 → List Value} {hh : A1 → A2 → A3 → A4 → A5 → Hp}
    (H : ∀ self : A1 → A2 → A3 → A4 → A5 → Option Out, (∀ a1 a2 a3 a4 a5, Xz κ (self a1 a2 a3 a4 a5) pc (ls a1 a2 a3 a4 a5) (st a1 a2 a3 a4 a5) (hh a1 a2 a3 a4 a5)) → ∀ a1 a2 a3 a4 a5, Xz κ (F self a1 a2 a3 a4 a5) pc (ls a1 a2 a3 a4 a5) (st a1 a2 a3 a4 a5) (hh a1 a2 a3 a4 a5)) {a1 : A1} {a2 : A2} {a3 : A3} {a4 : A4} {a5 : A5} : Xz κ (fx5 n F a1 a2 a3 a4 a5) pc (ls a1 a2 a3 a4 a5) (st a1 a2 a3 a4 a5) (hh a1 a2 a3 a4 a5) := by
  revert a1 a2 a3 a4 a5
  induction n with
  | zero => intro a1 a2 a3 a4 a5 out ho; cases ho
  | succ n ih => exact @(H (fx5 n F) (@ih))
def lt5 {A1 A2 A3 A4 A5 Out : Type} (k : A1 → A2 → A3 → A4 → A5 → Option Out) (b : (A1 → A2 → A3 → A4 → A5 → Option Out) → Option Out) : Option Out := b k
theorem lt5_eq {A1 A2 A3 A4 A5 Out : Type} (k : A1 → A2 → A3 → A4 → A5 → Option Out) (b : (A1 → A2 → A3 → A4 → A5 → Option Out) → Option Out) : lt5 k b = b k := rfl
theorem x_lt5 {A1 A2 A3 A4 A5 Out : Type} {κ : Kx Out} {pc q : Nat} {l0 : List (Nat × Value)} {s0 : List Value} {h0 : Hp} {k : A1 → A2 → A3 → A4 → A5 → Option Out} {b : (A1 → A2 → A3 → A4 → A5 → Option Out) → Option Out} {ls : A1 → A2 → A3 → A4 → A5 → List (Nat × Value)} {st : A1 → A2 → A3 → A4 → A5 → List Value} {hh : A1 → A2 → A3 → A4 → A5 → Hp}
    (J : ∀ a1 a2 a3 a4 a5, Xz κ (k a1 a2 a3 a4 a5) q (ls a1 a2 a3 a4 a5) (st a1 a2 a3 a4 a5) (hh a1 a2 a3 a4 a5)) (B : ∀ k : A1 → A2 → A3 → A4 → A5 → Option Out, (∀ a1 a2 a3 a4 a5, Xz κ (k a1 a2 a3 a4 a5) q (ls a1 a2 a3 a4 a5) (st a1 a2 a3 a4 a5) (hh a1 a2 a3 a4 a5)) → Xz κ (b k) pc l0 s0 h0) : Xz κ (lt5 k b) pc l0 s0 h0 := B k J
def fx6 {A1 A2 A3 A4 A5 A6 Out : Type} (n : Nat) (F : (A1 → A2 → A3 → A4 → A5 → A6 → Option Out) → A1 → A2 → A3 → A4 → A5 → A6 → Option Out) : A1 → A2 → A3 → A4 → A5 → A6 → Option Out := match n with
  | 0 => fun _ _ _ _ _ _ => none
  | m + 1 => F (fx6 m F)
theorem fx6_succ {A1 A2 A3 A4 A5 A6 Out : Type} (n : Nat) (F : (A1 → A2 → A3 → A4 → A5 → A6 → Option Out) → A1 → A2 → A3 → A4 → A5 → A6 → Option Out) (a1 : A1) (a2 : A2) (a3 : A3) (a4 : A4) (a5 : A5) (a6 : A6) : fx6 (n + 1) F a1 a2 a3 a4 a5 a6 = F (fx6 n F) a1 a2 a3 a4 a5 a6 := rfl
theorem fx6_pos {A1 A2 A3 A4 A5 A6 Out : Type} {n : Nat} (hn : 0 < n) (F : (A1 → A2 → A3 → A4 → A5 → A6 → Option Out) → A1 → A2 → A3 → A4 → A5 → A6 → Option Out) (a1 : A1) (a2 : A2) (a3 : A3) (a4 : A4) (a5 : A5) (a6 : A6) : fx6 n F a1 a2 a3 a4 a5 a6 = F (fx6 (n - 1) F) a1 a2 a3 a4 a5 a6 := by
  cases n with
  | zero => omega
  | succ n => rfl
theorem x_fx6 {A1 A2 A3 A4 A5 A6 Out : Type} {κ : Kx Out} {n pc : Nat} {F : (A1 → A2 → A3 → A4 → A5 → A6 → Option Out) → A1 → A2 → A3 → A4 → A5 → A6 → Option Out} {ls : A1 → A2 → A3 → A4 → A5 → A6 → List (Nat × Value)} {st : A1 → A2 → A3 → A4 → A5 → A6 → List Value} {hh : A1 → A2 → A3 → A4 → A5 → A6 → Hp}
    (H : ∀ self : A1 → A2 → A3 → A4 → A5 → A6 → Option Out, (∀ a1 a2 a3 a4 a5 a6, Xz κ (self a1 a2 a3 a4 a5 a6) pc (ls a1 a2 a3 a4 a5 a6) (st a1 a2 a3 a4 a5 a6) (hh a1 a2 a3 a4 a5 a6)) → ∀ a1 a2 a3 a4 a5 a6, Xz κ (F self a1 a2 a3 a4 a5 a6) pc (ls a1 a2 a3 a4 a5 a6) (st a1 a2 a3 a4 a5 a6) (hh a1 a2 a3 a4 a5 a6)) {a1 : A1} {a2 : A2} {a3 : A3} {a4 : A4} {a5 : A5} {a6 : A6} : Xz κ (fx6 n F a1 a2 a3 a4 a5 a6) pc (ls a1 a2 a3 a4 a5 a6) (st a1 a2 a3 a4 a5 a6) (hh a1 a2 a3 a4 a5 a6) := by
  revert a1 a2 a3 a4 a5 a6
  induction n with
  | zero => intro a1 a2 a3 a4 a5 a6 out ho; cases ho
  | succ n ih => exact @(H (fx6 n F) (@ih))
def lt6 {A1 A2 A3 A4 A5 A6 Out : Type} (k : A1 → A2 → A3 → A4 → A5 → A6 → Option Out) (b : (A1 → A2 → A3 → A4 → A5 → A6 → Option Out) → Option Out) : Option Out := b k
theorem lt6_eq {A1 A2 A3 A4 A5 A6 Out : Type} (k : A1 → A2 → A3 → A4 → A5 → A6 → Option Out) (b : (A1 → A2 → A3 → A4 → A5 → A6 → Option Out) → Option Out) : lt6 k b = b k := rfl
theorem x_lt6 {A1 A2 A3 A4 A5 A6 Out : Type} {κ : Kx Out} {pc q : Nat} {l0 : List (Nat × Value)} {s0 : List Value} {h0 : Hp} {k : A1 → A2 → A3 → A4 → A5 → A6 → Option Out} {b : (A1 → A2 → A3 → A4 → A5 → A6 → Option Out) → Option Out} {ls : A1 → A2 → A3 → A4 → A5 → A6 → List (Nat × Value)} {st : A1 → A2 → A3 → A4 → A5 → A6 → List Value} {hh : A1 → A2 → A3 → A4 → A5 → A6 → Hp}
    (J : ∀ a1 a2 a3 a4 a5 a6, Xz κ (k a1 a2 a3 a4 a5 a6) q (ls a1 a2 a3 a4 a5 a6) (st a1 a2 a3 a4 a5 a6) (hh a1 a2 a3 a4 a5 a6)) (B : ∀ k : A1 → A2 → A3 → A4 → A5 → A6 → Option Out, (∀ a1 a2 a3 a4 a5 a6, Xz κ (k a1 a2 a3 a4 a5 a6) q (ls a1 a2 a3 a4 a5 a6) (st a1 a2 a3 a4 a5 a6) (hh a1 a2 a3 a4 a5 a6)) → Xz κ (b k) pc l0 s0 h0) : Xz κ (lt6 k b) pc l0 s0 h0 := B k J
def fx7 {A1 A2 A3 A4 A5 A6 A7 Out : Type} (n : Nat) (F : (A1 → A2 → A3 → A4 → A5 → A6 → A7 → Option Out) → A1 → A2 → A3 → A4 → A5 → A6 → A7 → Option Out) : A1 → A2 → A3 → A4 → A5 → A6 → A7 → Option Out := match n with
  | 0 => fun _ _ _ _ _ _ _ => none
  | m + 1 => F (fx7 m F)
theorem fx7_succ {A1 A2 A3 A4 A5 A6 A7 Out : Type} (n : Nat) (F : (A1 → A2 → A3 → A4 → A5 → A6 → A7 → Option Out) → A1 → A2 → A3 → A4 → A5 → A6 → A7 → Option Out) (a1 : A1) (a2 : A2) (a3 : A3) (a4 : A4) (a5 : A5) (a6 : A6) (a7 : A7) : fx7 (n + 1) F a1 a2 a3 a4 a5 a6 a7 = F (fx7 n F) a1 a2 a3 a4 a5 a6 a7 := rfl
theorem fx7_pos {A1 A2 A3 A4 A5 A6 A7 Out : Type} {n : Nat} (hn : 0 < n) (F : (A1 → A2 → A3 → A4 → A5 → A6 → A7 → Option Out) → A1 → A2 → A3 → A4 → A5 → A6 → A7 → Option Out) (a1 : A1) (a2 : A2) (a3 : A3) (a4 : A4) (a5 : A5) (a6 : A6) (a7 : A7) : fx7 n F a1 a2 a3 a4 a5 a6 a7 = F (fx7 (n - 1) F) a1 a2 a3 a4 a5 a6 a7 := by
  cases n with
  | zero => omega
  | succ n => rfl
theorem x_fx7 {A1 A2 A3 A4 A5 A6 A7 Out : Type} {κ : Kx Out} {n pc : Nat} {F : (A1 → A2 → A3 → A4 → A5 → A6 → A7 → Option Out) → A1 → A2 → A3 → A4 → A5 → A6 → A7 → Option Out} {ls : A1 → A2 → A3 → A4 → A5 → A6 → A7 → List (Nat × Value)} {st : A1 → A2 → A3 → A4 → A5 → A6 → A7 → List Value} {hh : A1 → A2 → A3 → A4 → A5 → A6 → A7 → Hp}
    (H : ∀ self : A1 → A2 → A3 → A4 → A5 → A6 → A7 → Option Out, (∀ a1 a2 a3 a4 a5 a6 a7, Xz κ (self a1 a2 a3 a4 a5 a6 a7) pc (ls a1 a2 a3 a4 a5 a6 a7) (st a1 a2 a3 a4 a5 a6 a7) (hh a1 a2 a3 a4 a5 a6 a7)) → ∀ a1 a2 a3 a4 a5 a6 a7, Xz κ (F self a1 a2 a3 a4 a5 a6 a7) pc (ls a1 a2 a3 a4 a5 a6 a7) (st a1 a2 a3 a4 a5 a6 a7) (hh a1 a2 a3 a4 a5 a6 a7)) {a1 : A1} {a2 : A2} {a3 : A3} {a4 : A4} {a5 : A5} {a6 : A6} {a7 : A7} : Xz κ (fx7 n F a1 a2 a3 a4 a5 a6 a7) pc (ls a1 a2 a3 a4 a5 a6 a7) (st a1 a2 a3 a4 a5 a6 a7) (hh a1 a2 a3 a4 a5 a6 a7) := by
  revert a1 a2 a3 a4 a5 a6 a7
  induction n with
  | zero => intro a1 a2 a3 a4 a5 a6 a7 out ho; cases ho
  | succ n ih => exact @(H (fx7 n F) (@ih))
def lt7 {A1 A2 A3 A4 A5 A6 A7 Out : Type} (k : A1 → A2 → A3 → A4 → A5 → A6 → A7 → Option Out) (b : (A1 → A2 → A3 → A4 → A5 → A6 → A7 → Option Out) → Option Out) : Option Out := b k
theorem lt7_eq {A1 A2 A3 A4 A5 A6 A7 Out : Type} (k : A1 → A2 → A3 → A4 → A5 → A6 → A7 → Option Out) (b : (A1 → A2 → A3 → A4 → A5 → A6 → A7 → Option Out) → Option Out) : lt7 k b = b k := rfl
theorem x_lt7 {A1 A2 A3 A4 A5 A6 A7 Out : Type} {κ : Kx Out} {pc q : Nat} {l0 : List (Nat × Value)} {s0 : List Value} {h0 : Hp} {k : A1 → A2 → A3 → A4 → A5 → A6 → A7 → Option Out} {b : (A1 → A2 → A3 → A4 → A5 → A6 → A7 → Option Out) → Option Out} {ls : A1 → A2 → A3 → A4 → A5 → A6 → A7 → List (Nat × Value)} {st : A1 → A2 → A3 → A4 → A5 → A6 → A7 → List Value} {hh : A1 → A2 → A3 → A4 → A5 → A6 → A7 → Hp}
    (J : ∀ a1 a2 a3 a4 a5 a6 a7, Xz κ (k a1 a2 a3 a4 a5 a6 a7) q (ls a1 a2 a3 a4 a5 a6 a7) (st a1 a2 a3 a4 a5 a6 a7) (hh a1 a2 a3 a4 a5 a6 a7)) (B : ∀ k : A1 → A2 → A3 → A4 → A5 → A6 → A7 → Option Out, (∀ a1 a2 a3 a4 a5 a6 a7, Xz κ (k a1 a2 a3 a4 a5 a6 a7) q (ls a1 a2 a3 a4 a5 a6 a7) (st a1 a2 a3 a4 a5 a6 a7) (hh a1 a2 a3 a4 a5 a6 a7)) → Xz κ (b k) pc l0 s0 h0) : Xz κ (lt7 k b) pc l0 s0 h0 := B k J
end
section
section ROWS
variable {Out : Type} {κ : Kx Out} {o : Option Out} {cc : ByteArray} {own : String} {n pc q : Nat} {ls : List (Nat × Value)} {st : List Value} {h : Hp}
theorem x_nm {α : Type} {e : α} {T : α → Option Out} (k : Xz κ (T e) pc ls st h) : Xz κ (nm e T) pc ls st h := k
theorem x_ni {e : Int32} {T : Int32 → Option Out} (k : ∀ x, Xz κ (T x) pc ls (.int x :: st) h) : Xz κ (nm e T) pc ls (.int e :: st) h := k e
theorem x_nl {e : Int64} {T : Int64 → Option Out} (k : ∀ x, Xz κ (T x) pc ls (.long x :: st) h) : Xz κ (nm e T) pc ls (.long e :: st) h := k e
theorem x_nh {e : Hp} {T : Hp → Option Out} (k : ∀ x, Xz κ (T x) pc ls st x) : Xz κ (nm e T) pc ls st e := k e
theorem x_ite {b : Prop} [Decidable b] {o1 o2 : Option Out} (k1 : b → Xz κ o1 pc ls st h) (k2 : ¬ b → Xz κ o2 pc ls st h) : Xz κ (if b then o1 else o2) pc ls st h := by
  by_cases hb : b
  · rw [if_pos hb]; exact k1 hb
  · rw [if_neg hb]; exact k2 hb
theorem x_cn {b : Prop} [Decidable b] (k : ¬ b → Xz κ o pc ls st h) : Xz κ (cn b o) pc ls st h := by
  unfold cn
  by_cases hb : b
  · rw [if_pos hb]; intro out ho; cases ho
  · rw [if_neg hb]; exact k hb
theorem x_cy {b : Prop} [Decidable b] (k : b → Xz κ o pc ls st h) : Xz κ (cy b o) pc ls st h := by
  unfold cy
  by_cases hb : b
  · rw [if_pos hb]; exact k hb
  · rw [if_neg hb]; intro out ho; cases ho
theorem x_ck {i : Int32} {N : Nat} (k : vp_in i N → Xz κ o pc ls st h) : Xz κ (ck i N o) pc ls st h := by
  unfold ck
  by_cases hb : ¬ (i < 0 ∨ N ≤ i.toNatClampNeg)
  · rw [if_pos hb]; exact k hb
  · rw [if_neg hb]; intro out ho; cases ho
theorem x_ls (ks : List Nat) {ls' : List (Nat × Value)} (hk : lv_pick ls ks = ls') (k : Xz κ o pc ls' st h) : Xz κ o pc ls st h := by
  refine fun out ho H locs arr hP hS hl => k out ho H locs arr hP hS (lv_sub hl ks ?_)
  rw [← hk]
  unfold lv_pick
  rw [List.map_filterMap]
  congr 1
  funext a
  rw [List.getElem?_map]
theorem x_iconst (q : Nat) (C : Gd κ cc own n) {z : Int} {v : Int32} (d : decode cc pc = .ok (.iconst z, 1)) (hv : Int32.ofInt z = v) (hq : pc + 1 = q) (k : Xz κ o q ls (.int v :: st) h) : Xz κ o pc ls st h := by
  subst hq
  exact fun out ho H locs arr hP hS hl => lv_iconst C.x C.b d hv (k out ho H locs arr hP hS hl)
theorem x_bipush (q : Nat) (C : Gd κ cc own n) {z : Int} {v : Int32} (d : decode cc pc = .ok (.bipush z, 2)) (hv : (Int8.ofInt z).toInt32 = v) (hq : pc + 2 = q) (k : Xz κ o q ls (.int v :: st) h) : Xz κ o pc ls st h := by
  subst hq
  exact fun out ho H locs arr hP hS hl => lv_bipush C.x C.b d hv (k out ho H locs arr hP hS hl)
theorem x_sipush (q : Nat) (C : Gd κ cc own n) {z : Int} {v : Int32} (d : decode cc pc = .ok (.sipush z, 3)) (hv : (Int16.ofInt z).toInt32 = v) (hq : pc + 3 = q) (k : Xz κ o q ls (.int v :: st) h) : Xz κ o pc ls st h := by
  subst hq
  exact fun out ho H locs arr hP hS hl => lv_sipush C.x C.b d hv (k out ho H locs arr hP hS hl)
theorem x_lconst (q : Nat) (C : Gd κ cc own n) {z : Fin 2} {v : Int64} (d : decode cc pc = .ok (.lconst z, 1)) (hv : Int64.ofNat (z : Nat) = v) (hq : pc + 1 = q) (k : Xz κ o q ls (.long v :: st) h) : Xz κ o pc ls st h := by
  subst hq
  exact fun out ho H locs arr hP hS hl => lv_lconst C.x C.b d hv (k out ho H locs arr hP hS hl)
theorem x_ldc (q : Nat) (C : Gd κ cc own n) {i : Nat} {v : Int32} (d : decode cc pc = .ok (.ldc i, 2)) (hw : Cond.constant own i v ∈ tb2) (hq : pc + 2 = q) (k : Xz κ o q ls (.int v :: st) h) : Xz κ o pc ls st h := by
  subst hq
  exact fun out ho H locs arr hP hS hl => lv_ldc C.x C.b C.ow (C.ts _ hw) d (k out ho H locs arr hP hS hl)
theorem x_ldcw (q : Nat) (C : Gd κ cc own n) {i : Nat} {v : Int32} (d : decode cc pc = .ok (.ldc_w i, 3)) (hw : Cond.constant own i v ∈ tb2) (hq : pc + 3 = q) (k : Xz κ o q ls (.int v :: st) h) : Xz κ o pc ls st h := by
  subst hq
  exact fun out ho H locs arr hP hS hl => lv_ldcw C.x C.b C.ow (C.ts _ hw) d (k out ho H locs arr hP hS hl)
theorem x_ldc2 (q : Nat) (C : Gd κ cc own n) {i : Nat} {v : Int64} (d : decode cc pc = .ok (.ldc2_w i, 3)) (hw : Cond.constantLong own i v ∈ tb2) (hq : pc + 3 = q) (k : Xz κ o q ls (.long v :: st) h) : Xz κ o pc ls st h := by
  subst hq
  exact fun out ho H locs arr hP hS hl => lv_ldc2 C.x C.b C.ow (C.ts _ hw) d (k out ho H locs arr hP hS hl)
theorem lm_at {ad : Nat → Nat} {arr : Array Slot} {nL : Nat} {l : List (Nat × Value)} (hl : lv_has arr nL (l.map (mp ad))) (k : Nat) {i : Nat} {v : Value} (hk : l[k]? = some (i, v)) : arr[i]? = some (.val (mv ad v)) :=
  lv_at hl k (by rw [List.getElem?_map, hk]; rfl)
theorem x_iload_n (q : Nat) (C : Gd κ cc own n) {z : Fin 4} {i : Nat} {x : Int32} (d : decode cc pc = .ok (.iload_n z, 1)) (j : Nat) (hj : ls[j]? = some (i, .int x)) (hi : (z : Nat) = i) (hq : pc + 1 = q) (k : Xz κ o q ls (.int x :: st) h) : Xz κ o pc ls st h := by
  subst hq
  exact fun out ho H locs arr hP hS hl => lv_iload_n C.x C.b d hi (lm_at hl j hj) (k out ho H locs arr hP hS hl)
theorem x_iload (q : Nat) (C : Gd κ cc own n) {i : Nat} {x : Int32} (d : decode cc pc = .ok (.iload i, 2)) (j : Nat) (hj : ls[j]? = some (i, .int x)) (hq : pc + 2 = q) (k : Xz κ o q ls (.int x :: st) h) : Xz κ o pc ls st h := by
  subst hq
  exact fun out ho H locs arr hP hS hl => lv_iload C.x C.b d (lm_at hl j hj) (k out ho H locs arr hP hS hl)
theorem x_lload_n (q : Nat) (C : Gd κ cc own n) {z : Fin 4} {i : Nat} {x : Int64} (d : decode cc pc = .ok (.lload_n z, 1)) (j : Nat) (hj : ls[j]? = some (i, .long x)) (hi : (z : Nat) = i) (hq : pc + 1 = q) (k : Xz κ o q ls (.long x :: st) h) : Xz κ o pc ls st h := by
  subst hq
  exact fun out ho H locs arr hP hS hl => lv_lload_n C.x C.b d hi (lm_at hl j hj) (k out ho H locs arr hP hS hl)
theorem x_lload (q : Nat) (C : Gd κ cc own n) {i : Nat} {x : Int64} (d : decode cc pc = .ok (.lload i, 2)) (j : Nat) (hj : ls[j]? = some (i, .long x)) (hq : pc + 2 = q) (k : Xz κ o q ls (.long x :: st) h) : Xz κ o pc ls st h := by
  subst hq
  exact fun out ho H locs arr hP hS hl => lv_lload C.x C.b d (lm_at hl j hj) (k out ho H locs arr hP hS hl)
theorem x_aload_n (q : Nat) (C : Gd κ cc own n) {z : Fin 4} {i : Nat} {x : Nat} (d : decode cc pc = .ok (.aload_n z, 1)) (j : Nat) (hj : ls[j]? = some (i, .ref x)) (hi : (z : Nat) = i) (hq : pc + 1 = q) (k : Xz κ o q ls (.ref x :: st) h) : Xz κ o pc ls st h := by
  subst hq
  exact fun out ho H locs arr hP hS hl => lv_aload_n C.x C.b d hi (lm_at hl j hj) (k out ho H locs arr hP hS hl)
theorem x_aload (q : Nat) (C : Gd κ cc own n) {i : Nat} {x : Nat} (d : decode cc pc = .ok (.aload i, 2)) (j : Nat) (hj : ls[j]? = some (i, .ref x)) (hq : pc + 2 = q) (k : Xz κ o q ls (.ref x :: st) h) : Xz κ o pc ls st h := by
  subst hq
  exact fun out ho H locs arr hP hS hl => lv_aload C.x C.b d (lm_at hl j hj) (k out ho H locs arr hP hS hl)
def f1 (i : Nat) (q : Nat × Value) : Bool := !(q.1 == i) && !(q.1 + 1 == i && q.2.category == 2)
def f2 (i : Nat) (q : Nat × Value) : Bool := !(q.1 == i) && (!(q.1 == i + 1) && !(q.1 + 1 == i && q.2.category == 2))
theorem mp_f1 (ad : Nat → Nat) (i : Nat) (l : List (Nat × Value)) : (l.map (mp ad)).filter (f1 i) = (l.filter (f1 i)).map (mp ad) := by
  rw [List.filter_map]
  congr 1
  apply List.filter_congr
  intro q _
  simp [f1, mp, mv_cat, Function.comp]
theorem mp_f2 (ad : Nat → Nat) (i : Nat) (l : List (Nat × Value)) : (l.map (mp ad)).filter (f2 i) = (l.filter (f2 i)).map (mp ad) := by
  rw [List.filter_map]
  congr 1
  apply List.filter_congr
  intro q _
  simp [f2, mp, mv_cat, Function.comp]
theorem mp_s1 {ad : Nat → Nat} {i : Nat} {v : Value} {l l' : List (Nat × Value)} (hl : (i, v) :: l.filter (f1 i) = l') : (i, mv ad v) :: (l.map (mp ad)).filter (fun q => !(q.1 == i) && !(q.1 + 1 == i && q.2.category == 2)) = l'.map (mp ad) := by
  rw [← hl, List.map_cons, ← mp_f1]; rfl
theorem mp_s2 {ad : Nat → Nat} {i : Nat} {v : Value} {l l' : List (Nat × Value)} (hl : (i, v) :: l.filter (f2 i) = l') : (i, mv ad v) :: (l.map (mp ad)).filter (fun q => !(q.1 == i) && (!(q.1 == i + 1) && !(q.1 + 1 == i && q.2.category == 2))) = l'.map (mp ad) := by
  rw [← hl, List.map_cons, ← mp_f2]; rfl
theorem x_istore_n (q : Nat) (ls' : List (Nat × Value)) (C : Gd κ cc own n) {z : Fin 4} {i : Nat} {x : Int32} (d : decode cc pc = .ok (.istore_n z, 1)) (hn : i < kn κ) (hl' : (i, Value.int x) :: ls.filter (f1 i) = ls') (hi : (z : Nat) = i) (hq : pc + 1 = q) (k : Xz κ o q ls' st h) : Xz κ o pc ls (.int x :: st) h := by
  subst hq
  exact fun out ho H locs arr hP hS hl => lv_istore_n C.x C.b d hi hl hn (mp_s1 hl') (fun arr' hl2 => k out ho H locs arr' hP hS hl2)
theorem x_istore (q : Nat) (ls' : List (Nat × Value)) (C : Gd κ cc own n) {i : Nat} {x : Int32} (d : decode cc pc = .ok (.istore i, 2)) (hn : i < kn κ) (hl' : (i, Value.int x) :: ls.filter (f1 i) = ls') (hq : pc + 2 = q) (k : Xz κ o q ls' st h) : Xz κ o pc ls (.int x :: st) h := by
  subst hq
  exact fun out ho H locs arr hP hS hl => lv_istore C.x C.b d hl hn (mp_s1 hl') (fun arr' hl2 => k out ho H locs arr' hP hS hl2)
theorem x_lstore_n (q : Nat) (ls' : List (Nat × Value)) (C : Gd κ cc own n) {z : Fin 4} {i : Nat} {x : Int64} (d : decode cc pc = .ok (.lstore_n z, 1)) (hn : i + 1 < kn κ) (hl' : (i, Value.long x) :: ls.filter (f2 i) = ls') (hi : (z : Nat) = i) (hq : pc + 1 = q) (k : Xz κ o q ls' st h) : Xz κ o pc ls (.long x :: st) h := by
  subst hq
  exact fun out ho H locs arr hP hS hl => lv_lstore_n C.x C.b d hi hl hn (mp_s2 hl') (fun arr' hl2 => k out ho H locs arr' hP hS hl2)
theorem x_lstore (q : Nat) (ls' : List (Nat × Value)) (C : Gd κ cc own n) {i : Nat} {x : Int64} (d : decode cc pc = .ok (.lstore i, 2)) (hn : i + 1 < kn κ) (hl' : (i, Value.long x) :: ls.filter (f2 i) = ls') (hq : pc + 2 = q) (k : Xz κ o q ls' st h) : Xz κ o pc ls (.long x :: st) h := by
  subst hq
  exact fun out ho H locs arr hP hS hl => lv_lstore C.x C.b d hl hn (mp_s2 hl') (fun arr' hl2 => k out ho H locs arr' hP hS hl2)
theorem x_astore_n (q : Nat) (ls' : List (Nat × Value)) (C : Gd κ cc own n) {z : Fin 4} {i : Nat} {x : Nat} (d : decode cc pc = .ok (.astore_n z, 1)) (hn : i < kn κ) (hl' : (i, Value.ref x) :: ls.filter (f1 i) = ls') (hi : (z : Nat) = i) (hq : pc + 1 = q) (k : Xz κ o q ls' st h) : Xz κ o pc ls (.ref x :: st) h := by
  subst hq
  exact fun out ho H locs arr hP hS hl => lv_astore_n C.x C.b d hi hl hn (mp_s1 hl') (fun arr' hl2 => k out ho H locs arr' hP hS hl2)
theorem x_astore (q : Nat) (ls' : List (Nat × Value)) (C : Gd κ cc own n) {i : Nat} {x : Nat} (d : decode cc pc = .ok (.astore i, 2)) (hn : i < kn κ) (hl' : (i, Value.ref x) :: ls.filter (f1 i) = ls') (hq : pc + 2 = q) (k : Xz κ o q ls' st h) : Xz κ o pc ls (.ref x :: st) h := by
  subst hq
  exact fun out ho H locs arr hP hS hl => lv_astore C.x C.b d hl hn (mp_s1 hl') (fun arr' hl2 => k out ho H locs arr' hP hS hl2)
theorem x_iinc (q : Nat) (ls' : Int32 → List (Nat × Value)) (C : Gd κ cc own n) {i : Nat} {z : Int} {x v : Int32} {T : Int32 → Option Out} (d : decode cc pc = .ok (.iinc i z, 3)) (j : Nat) (hj : ls[j]? = some (i, .int x)) (hv : Int32.ofInt z = v) (hn : i < kn κ) (hl' : ∀ y, (i, Value.int y) :: ls.filter (f1 i) = ls' y) (hq : pc + 3 = q) (k : ∀ y, Xz κ (T y) q (ls' y) st h) : Xz κ (nm (x + v) T) pc ls st h := by
  subst hq
  exact fun out ho H locs arr hP hS hl => lv_iinc C.x C.b d hl (k := j) (by rw [List.getElem?_map, hj]; rfl) (by rw [hv]) hn (mp_s1 (hl' (x + v))) (fun arr' hl2 => k (x + v) out ho H locs arr' hP hS hl2)
theorem x_dup (q : Nat) (C : Gd κ cc own n) {v : Value} (d : decode cc pc = .ok (.dup, 1)) (hv : v.category = 1) (hq : pc + 1 = q) (k : Xz κ o q ls (v :: v :: st) h) : Xz κ o pc ls (v :: st) h := by
  subst hq
  exact fun out ho H locs arr hP hS hl => lv_dup C.x C.b d ((mv_cat _ _).trans hv) (k out ho H locs arr hP hS hl)
theorem x_pop (q : Nat) (C : Gd κ cc own n) {v : Value} (d : decode cc pc = .ok (.pop, 1)) (hv : v.category = 1) (hq : pc + 1 = q) (k : Xz κ o q ls st h) : Xz κ o pc ls (v :: st) h := by
  subst hq
  exact fun out ho H locs arr hP hS hl => lv_pop C.x C.b d ((mv_cat _ _).trans hv) (k out ho H locs arr hP hS hl)
theorem x_dup2 (q : Nat) (C : Gd κ cc own n) {v w : Value} (d : decode cc pc = .ok (.dup2, 1)) (hv : v.category = 1) (hw : w.category = 1) (hq : pc + 1 = q) (k : Xz κ o q ls (v :: w :: v :: w :: st) h) : Xz κ o pc ls (v :: w :: st) h := by
  subst hq
  exact fun out ho H locs arr hP hS hl => lv_dup2_11 C.x C.b d ((mv_cat _ _).trans hv) ((mv_cat _ _).trans hw) (k out ho H locs arr hP hS hl)
theorem x_goto (q : Nat) (C : Gd κ cc own n) {off : Int} (d : decode cc pc = .ok (.goto off, 3)) (hq : (pc : Int) + off = (q : Int)) (k : Xz κ o q ls st h) : Xz κ o pc ls st h :=
  fun out ho H locs arr hP hS hl => lv_goto C.x C.b d hq (k out ho H locs arr hP hS hl)
theorem x_iushr (q : Nat) (C : Gd κ cc own n) {x y : Int32} (d : decode cc pc = .ok (.iushr, 1)) (hq : pc + 1 = q) (k : Xz κ o q ls (.int (x.toUInt32 >>> (y.toUInt32 &&& Int32.toUInt32 31)).toInt32 :: st) h) : Xz κ o pc ls (.int y :: .int x :: st) h := by
  subst hq
  exact fun out ho H locs arr hP hS hl => lv_iushr C.x C.b d rfl (k out ho H locs arr hP hS hl)
theorem x_lshl (q : Nat) (C : Gd κ cc own n) {x : Int64} {y : Int32} (d : decode cc pc = .ok (.lshl, 1)) (hq : pc + 1 = q) (k : Xz κ o q ls (.long (x <<< (y.toInt64 &&& 63)) :: st) h) : Xz κ o pc ls (.int y :: .long x :: st) h := by
  subst hq
  exact fun out ho H locs arr hP hS hl => lv_lshl C.x C.b d rfl (k out ho H locs arr hP hS hl)
theorem x_lcmp (q : Nat) (C : Gd κ cc own n) {x y : Int64} (d : decode cc pc = .ok (.lcmp, 1)) (hq : pc + 1 = q) (k : Xz κ o q ls (.int (lg_cmp x y) :: st) h) : Xz κ o pc ls (.long y :: .long x :: st) h := by
  subst hq
  exact fun out ho H locs arr hP hS hl => W.lcmp C.x C.b d (k out ho H locs arr hP hS hl)
theorem x_iadd (q : Nat) (C : Gd κ cc own n) {x y : Int32} (d : decode cc pc = .ok (.iadd, 1)) (hq : pc + 1 = q) (k : Xz κ o q ls (.int (x + y) :: st) h) : Xz κ o pc ls (.int y :: .int x :: st) h := by
  subst hq
  exact fun out ho H locs arr hP hS hl => lv_iadd C.x C.b d (k out ho H locs arr hP hS hl)
theorem x_isub (q : Nat) (C : Gd κ cc own n) {x y : Int32} (d : decode cc pc = .ok (.isub, 1)) (hq : pc + 1 = q) (k : Xz κ o q ls (.int (x - y) :: st) h) : Xz κ o pc ls (.int y :: .int x :: st) h := by
  subst hq
  exact fun out ho H locs arr hP hS hl => lv_isub C.x C.b d (k out ho H locs arr hP hS hl)
theorem x_imul (q : Nat) (C : Gd κ cc own n) {x y : Int32} (d : decode cc pc = .ok (.imul, 1)) (hq : pc + 1 = q) (k : Xz κ o q ls (.int (x * y) :: st) h) : Xz κ o pc ls (.int y :: .int x :: st) h := by
  subst hq
  exact fun out ho H locs arr hP hS hl => lv_imul C.x C.b d (k out ho H locs arr hP hS hl)
theorem x_iand (q : Nat) (C : Gd κ cc own n) {x y : Int32} (d : decode cc pc = .ok (.iand, 1)) (hq : pc + 1 = q) (k : Xz κ o q ls (.int (x &&& y) :: st) h) : Xz κ o pc ls (.int y :: .int x :: st) h := by
  subst hq
  exact fun out ho H locs arr hP hS hl => lv_iand C.x C.b d (k out ho H locs arr hP hS hl)
theorem x_ior (q : Nat) (C : Gd κ cc own n) {x y : Int32} (d : decode cc pc = .ok (.ior, 1)) (hq : pc + 1 = q) (k : Xz κ o q ls (.int (x ||| y) :: st) h) : Xz κ o pc ls (.int y :: .int x :: st) h := by
  subst hq
  exact fun out ho H locs arr hP hS hl => lv_ior C.x C.b d (k out ho H locs arr hP hS hl)
theorem x_ixor (q : Nat) (C : Gd κ cc own n) {x y : Int32} (d : decode cc pc = .ok (.ixor, 1)) (hq : pc + 1 = q) (k : Xz κ o q ls (.int (x ^^^ y) :: st) h) : Xz κ o pc ls (.int y :: .int x :: st) h := by
  subst hq
  exact fun out ho H locs arr hP hS hl => lv_ixor C.x C.b d (k out ho H locs arr hP hS hl)
theorem x_ishl (q : Nat) (C : Gd κ cc own n) {x y : Int32} (d : decode cc pc = .ok (.ishl, 1)) (hq : pc + 1 = q) (k : Xz κ o q ls (.int (x <<< (y &&& 31)) :: st) h) : Xz κ o pc ls (.int y :: .int x :: st) h := by
  subst hq
  exact fun out ho H locs arr hP hS hl => lv_ishl C.x C.b d (k out ho H locs arr hP hS hl)
theorem x_ishr (q : Nat) (C : Gd κ cc own n) {x y : Int32} (d : decode cc pc = .ok (.ishr, 1)) (hq : pc + 1 = q) (k : Xz κ o q ls (.int (x >>> (y &&& 31)) :: st) h) : Xz κ o pc ls (.int y :: .int x :: st) h := by
  subst hq
  exact fun out ho H locs arr hP hS hl => lv_ishr C.x C.b d (k out ho H locs arr hP hS hl)
theorem x_idiv (q : Nat) (C : Gd κ cc own n) {x y : Int32} (d : decode cc pc = .ok (.idiv, 1)) (hy : ¬ y = 0) (hq : pc + 1 = q) (k : Xz κ o q ls (.int (x / y) :: st) h) : Xz κ o pc ls (.int y :: .int x :: st) h := by
  subst hq
  exact fun out ho H locs arr hP hS hl => lv_idiv C.x C.b d hy (k out ho H locs arr hP hS hl)
theorem x_irem (q : Nat) (C : Gd κ cc own n) {x y : Int32} (d : decode cc pc = .ok (.irem, 1)) (hy : ¬ y = 0) (hq : pc + 1 = q) (k : Xz κ o q ls (.int (x - x / y * y) :: st) h) : Xz κ o pc ls (.int y :: .int x :: st) h := by
  subst hq
  exact fun out ho H locs arr hP hS hl => lv_irem C.x C.b d hy (k out ho H locs arr hP hS hl)
theorem x_ladd (q : Nat) (C : Gd κ cc own n) {x y : Int64} (d : decode cc pc = .ok (.ladd, 1)) (hq : pc + 1 = q) (k : Xz κ o q ls (.long (x + y) :: st) h) : Xz κ o pc ls (.long y :: .long x :: st) h := by
  subst hq
  exact fun out ho H locs arr hP hS hl => lv_ladd C.x C.b d (k out ho H locs arr hP hS hl)
theorem x_lsub (q : Nat) (C : Gd κ cc own n) {x y : Int64} (d : decode cc pc = .ok (.lsub, 1)) (hq : pc + 1 = q) (k : Xz κ o q ls (.long (x - y) :: st) h) : Xz κ o pc ls (.long y :: .long x :: st) h := by
  subst hq
  exact fun out ho H locs arr hP hS hl => lv_lsub C.x C.b d (k out ho H locs arr hP hS hl)
theorem x_lmul (q : Nat) (C : Gd κ cc own n) {x y : Int64} (d : decode cc pc = .ok (.lmul, 1)) (hq : pc + 1 = q) (k : Xz κ o q ls (.long (x * y) :: st) h) : Xz κ o pc ls (.long y :: .long x :: st) h := by
  subst hq
  exact fun out ho H locs arr hP hS hl => lv_lmul C.x C.b d (k out ho H locs arr hP hS hl)
theorem x_lor (q : Nat) (C : Gd κ cc own n) {x y : Int64} (d : decode cc pc = .ok (.lor, 1)) (hq : pc + 1 = q) (k : Xz κ o q ls (.long (x ||| y) :: st) h) : Xz κ o pc ls (.long y :: .long x :: st) h := by
  subst hq
  exact fun out ho H locs arr hP hS hl => lv_lor C.x C.b d (k out ho H locs arr hP hS hl)
theorem x_ldiv (q : Nat) (C : Gd κ cc own n) {x y : Int64} (d : decode cc pc = .ok (.ldiv, 1)) (hy : ¬ y = 0) (hq : pc + 1 = q) (k : Xz κ o q ls (.long (x / y) :: st) h) : Xz κ o pc ls (.long y :: .long x :: st) h := by
  subst hq
  exact fun out ho H locs arr hP hS hl => lv_ldiv C.x C.b d hy (k out ho H locs arr hP hS hl)
theorem x_lrem (q : Nat) (C : Gd κ cc own n) {x y : Int64} (d : decode cc pc = .ok (.lrem, 1)) (hy : ¬ y = 0) (hq : pc + 1 = q) (k : Xz κ o q ls (.long (x - x / y * y) :: st) h) : Xz κ o pc ls (.long y :: .long x :: st) h := by
  subst hq
  exact fun out ho H locs arr hP hS hl => lv_lrem C.x C.b d hy (k out ho H locs arr hP hS hl)
theorem x_ineg (q : Nat) (C : Gd κ cc own n) {x : Int32} (d : decode cc pc = .ok (.ineg, 1)) (hq : pc + 1 = q) (k : Xz κ o q ls (.int (0 - x) :: st) h) : Xz κ o pc ls (.int x :: st) h := by
  subst hq
  exact fun out ho H locs arr hP hS hl => lv_ineg C.x C.b d (k out ho H locs arr hP hS hl)
theorem x_i2l (q : Nat) (C : Gd κ cc own n) {x : Int32} (d : decode cc pc = .ok (.i2l, 1)) (hq : pc + 1 = q) (k : Xz κ o q ls (.long (x.toInt64) :: st) h) : Xz κ o pc ls (.int x :: st) h := by
  subst hq
  exact fun out ho H locs arr hP hS hl => lv_i2l C.x C.b d rfl (k out ho H locs arr hP hS hl)
theorem x_i2b (q : Nat) (C : Gd κ cc own n) {x : Int32} (d : decode cc pc = .ok (.i2b, 1)) (hq : pc + 1 = q) (k : Xz κ o q ls (.int (x.toInt8.toInt32) :: st) h) : Xz κ o pc ls (.int x :: st) h := by
  subst hq
  exact fun out ho H locs arr hP hS hl => lv_i2b C.x C.b d rfl (k out ho H locs arr hP hS hl)
theorem x_i2s (q : Nat) (C : Gd κ cc own n) {x : Int32} (d : decode cc pc = .ok (.i2s, 1)) (hq : pc + 1 = q) (k : Xz κ o q ls (.int (x.toInt16.toInt32) :: st) h) : Xz κ o pc ls (.int x :: st) h := by
  subst hq
  exact fun out ho H locs arr hP hS hl => lv_i2s C.x C.b d rfl (k out ho H locs arr hP hS hl)
theorem x_icmp_eq (q tgt : Nat) (C : Gd κ cc own n) {x y : Int32} {o1 o2 : Option Out} {off : Int} (d : decode cc pc = .ok (.if_icmp .eq off, 3)) (ht : (pc : Int) + off = (tgt : Int)) (hq : pc + 3 = q) (k1 : x = y → Xz κ o1 tgt ls st h) (k2 : ¬ (x = y) → Xz κ o2 q ls st h) : Xz κ (if x = y then o1 else o2) pc ls (.int y :: .int x :: st) h := by
  subst hq
  refine fun out ho H locs arr hP hS hl => lv_icmp_eq C.x C.b d ht (fun hc => k1 hc out ?_ H locs arr hP hS hl) (fun hc => k2 hc out ?_ H locs arr hP hS hl)
  · rw [if_pos hc] at ho; exact ho
  · rw [if_neg hc] at ho; exact ho
theorem x_if_eq (q tgt : Nat) (C : Gd κ cc own n) {x : Int32} {o1 o2 : Option Out} {off : Int} (d : decode cc pc = .ok (.ifCond .eq off, 3)) (ht : (pc : Int) + off = (tgt : Int)) (hq : pc + 3 = q) (k1 : x = 0 → Xz κ o1 tgt ls st h) (k2 : ¬ (x = 0) → Xz κ o2 q ls st h) : Xz κ (if x = 0 then o1 else o2) pc ls (.int x :: st) h := by
  subst hq
  refine fun out ho H locs arr hP hS hl => lv_if_eq C.x C.b d ht (fun hc => k1 hc out ?_ H locs arr hP hS hl) (fun hc => k2 hc out ?_ H locs arr hP hS hl)
  · rw [if_pos hc] at ho; exact ho
  · rw [if_neg hc] at ho; exact ho
theorem x_icmp_lt (q tgt : Nat) (C : Gd κ cc own n) {x y : Int32} {o1 o2 : Option Out} {off : Int} (d : decode cc pc = .ok (.if_icmp .lt off, 3)) (ht : (pc : Int) + off = (tgt : Int)) (hq : pc + 3 = q) (k1 : x < y → Xz κ o1 tgt ls st h) (k2 : ¬ (x < y) → Xz κ o2 q ls st h) : Xz κ (if x < y then o1 else o2) pc ls (.int y :: .int x :: st) h := by
  subst hq
  refine fun out ho H locs arr hP hS hl => lv_icmp_lt C.x C.b d ht (fun hc => k1 hc out ?_ H locs arr hP hS hl) (fun hc => k2 hc out ?_ H locs arr hP hS hl)
  · rw [if_pos hc] at ho; exact ho
  · rw [if_neg hc] at ho; exact ho
theorem x_if_lt (q tgt : Nat) (C : Gd κ cc own n) {x : Int32} {o1 o2 : Option Out} {off : Int} (d : decode cc pc = .ok (.ifCond .lt off, 3)) (ht : (pc : Int) + off = (tgt : Int)) (hq : pc + 3 = q) (k1 : x < 0 → Xz κ o1 tgt ls st h) (k2 : ¬ (x < 0) → Xz κ o2 q ls st h) : Xz κ (if x < 0 then o1 else o2) pc ls (.int x :: st) h := by
  subst hq
  refine fun out ho H locs arr hP hS hl => lv_if_lt C.x C.b d ht (fun hc => k1 hc out ?_ H locs arr hP hS hl) (fun hc => k2 hc out ?_ H locs arr hP hS hl)
  · rw [if_pos hc] at ho; exact ho
  · rw [if_neg hc] at ho; exact ho
theorem x_icmp_ge (q tgt : Nat) (C : Gd κ cc own n) {x y : Int32} {o1 o2 : Option Out} {off : Int} (d : decode cc pc = .ok (.if_icmp .ge off, 3)) (ht : (pc : Int) + off = (tgt : Int)) (hq : pc + 3 = q) (k1 : y ≤ x → Xz κ o1 tgt ls st h) (k2 : ¬ (y ≤ x) → Xz κ o2 q ls st h) : Xz κ (if y ≤ x then o1 else o2) pc ls (.int y :: .int x :: st) h := by
  subst hq
  refine fun out ho H locs arr hP hS hl => lv_icmp_ge C.x C.b d ht (fun hc => k1 hc out ?_ H locs arr hP hS hl) (fun hc => k2 hc out ?_ H locs arr hP hS hl)
  · rw [if_pos hc] at ho; exact ho
  · rw [if_neg hc] at ho; exact ho
theorem x_if_ge (q tgt : Nat) (C : Gd κ cc own n) {x : Int32} {o1 o2 : Option Out} {off : Int} (d : decode cc pc = .ok (.ifCond .ge off, 3)) (ht : (pc : Int) + off = (tgt : Int)) (hq : pc + 3 = q) (k1 : 0 ≤ x → Xz κ o1 tgt ls st h) (k2 : ¬ (0 ≤ x) → Xz κ o2 q ls st h) : Xz κ (if 0 ≤ x then o1 else o2) pc ls (.int x :: st) h := by
  subst hq
  refine fun out ho H locs arr hP hS hl => lv_if_ge C.x C.b d ht (fun hc => k1 hc out ?_ H locs arr hP hS hl) (fun hc => k2 hc out ?_ H locs arr hP hS hl)
  · rw [if_pos hc] at ho; exact ho
  · rw [if_neg hc] at ho; exact ho
theorem x_icmp_gt (q tgt : Nat) (C : Gd κ cc own n) {x y : Int32} {o1 o2 : Option Out} {off : Int} (d : decode cc pc = .ok (.if_icmp .gt off, 3)) (ht : (pc : Int) + off = (tgt : Int)) (hq : pc + 3 = q) (k1 : y < x → Xz κ o1 tgt ls st h) (k2 : ¬ (y < x) → Xz κ o2 q ls st h) : Xz κ (if y < x then o1 else o2) pc ls (.int y :: .int x :: st) h := by
  subst hq
  refine fun out ho H locs arr hP hS hl => lv_icmp_gt C.x C.b d ht (fun hc => k1 hc out ?_ H locs arr hP hS hl) (fun hc => k2 hc out ?_ H locs arr hP hS hl)
  · rw [if_pos hc] at ho; exact ho
  · rw [if_neg hc] at ho; exact ho
theorem x_if_gt (q tgt : Nat) (C : Gd κ cc own n) {x : Int32} {o1 o2 : Option Out} {off : Int} (d : decode cc pc = .ok (.ifCond .gt off, 3)) (ht : (pc : Int) + off = (tgt : Int)) (hq : pc + 3 = q) (k1 : 0 < x → Xz κ o1 tgt ls st h) (k2 : ¬ (0 < x) → Xz κ o2 q ls st h) : Xz κ (if 0 < x then o1 else o2) pc ls (.int x :: st) h := by
  subst hq
  refine fun out ho H locs arr hP hS hl => lv_if_gt C.x C.b d ht (fun hc => k1 hc out ?_ H locs arr hP hS hl) (fun hc => k2 hc out ?_ H locs arr hP hS hl)
  · rw [if_pos hc] at ho; exact ho
  · rw [if_neg hc] at ho; exact ho
theorem x_icmp_le (q tgt : Nat) (C : Gd κ cc own n) {x y : Int32} {o1 o2 : Option Out} {off : Int} (d : decode cc pc = .ok (.if_icmp .le off, 3)) (ht : (pc : Int) + off = (tgt : Int)) (hq : pc + 3 = q) (k1 : x ≤ y → Xz κ o1 tgt ls st h) (k2 : ¬ (x ≤ y) → Xz κ o2 q ls st h) : Xz κ (if x ≤ y then o1 else o2) pc ls (.int y :: .int x :: st) h := by
  subst hq
  refine fun out ho H locs arr hP hS hl => lv_icmp_le C.x C.b d ht (fun hc => k1 hc out ?_ H locs arr hP hS hl) (fun hc => k2 hc out ?_ H locs arr hP hS hl)
  · rw [if_pos hc] at ho; exact ho
  · rw [if_neg hc] at ho; exact ho
theorem x_if_le (q tgt : Nat) (C : Gd κ cc own n) {x : Int32} {o1 o2 : Option Out} {off : Int} (d : decode cc pc = .ok (.ifCond .le off, 3)) (ht : (pc : Int) + off = (tgt : Int)) (hq : pc + 3 = q) (k1 : x ≤ 0 → Xz κ o1 tgt ls st h) (k2 : ¬ (x ≤ 0) → Xz κ o2 q ls st h) : Xz κ (if x ≤ 0 then o1 else o2) pc ls (.int x :: st) h := by
  subst hq
  refine fun out ho H locs arr hP hS hl => lv_if_le C.x C.b d ht (fun hc => k1 hc out ?_ H locs arr hP hS hl) (fun hc => k2 hc out ?_ H locs arr hP hS hl)
  · rw [if_pos hc] at ho; exact ho
  · rw [if_neg hc] at ho; exact ho
theorem x_icmp_ne (q tgt : Nat) (C : Gd κ cc own n) {x y : Int32} {o1 o2 : Option Out} {off : Int} (d : decode cc pc = .ok (.if_icmp .ne off, 3)) (ht : (pc : Int) + off = (tgt : Int)) (hq : pc + 3 = q) (k1 : ¬ (x = y) → Xz κ o1 tgt ls st h) (k2 : x = y → Xz κ o2 q ls st h) : Xz κ (if x = y then o2 else o1) pc ls (.int y :: .int x :: st) h := by
  subst hq
  refine fun out ho H locs arr hP hS hl => lv_icmp_ne C.x C.b d ht (fun hc => k1 hc out ?_ H locs arr hP hS hl) (fun hc => k2 hc out ?_ H locs arr hP hS hl)
  · rw [if_neg hc] at ho; exact ho
  · rw [if_pos hc] at ho; exact ho
theorem x_if_ne (q tgt : Nat) (C : Gd κ cc own n) {x : Int32} {o1 o2 : Option Out} {off : Int} (d : decode cc pc = .ok (.ifCond .ne off, 3)) (ht : (pc : Int) + off = (tgt : Int)) (hq : pc + 3 = q) (k1 : ¬ (x = 0) → Xz κ o1 tgt ls st h) (k2 : x = 0 → Xz κ o2 q ls st h) : Xz κ (if x = 0 then o2 else o1) pc ls (.int x :: st) h := by
  subst hq
  refine fun out ho H locs arr hP hS hl => lv_if_ne C.x C.b d ht (fun hc => k1 hc out ?_ H locs arr hP hS hl) (fun hc => k2 hc out ?_ H locs arr hP hS hl)
  · rw [if_neg hc] at ho; exact ho
  · rw [if_pos hc] at ho; exact ho
end ROWS
end
section
/-! fields, arrays, returns, calls -/
/-- a field's place, as an instruction of the class own links it by its index: class number ci, slot j -/
def FL (own : String) (idx ci j : Nat) : Prop := ∃ (C : String) (T : u_T) (N : Nat) (ty0 : Nat → FieldType), vwCl[ci]? = some (C, T, N) ∧ ci < 9 ∧ (∀ w ∈ u_ws C T N, w ∈ tb2) ∧ j < N ∧ nf ci = N ∧ (∀ k, k < N → parseFieldDescriptor (T k).2.2.1 = some (ty0 k)) ∧ (∀ a, a < N → ∀ b, b < N → a ≠ b → (T a).2.1 ≠ (T b).2.1) ∧ (Cond.fieldLink own idx (T j).1 (T j).2.1 (T j).2.2.1 ∈ tb2 ∨ ∃ host, Cond.fieldLinkNest own idx (T j).1 (T j).2.1 (T j).2.2.1 host ∈ tb2)
/-- and it may be written, as of the type ty -/
def FP (own : String) (idx ci j : Nat) (ty : FieldType) : Prop := ∃ (C : String) (T : u_T) (N : Nat) (ty0 : Nat → FieldType), vwCl[ci]? = some (C, T, N) ∧ ci < 9 ∧ (∀ w ∈ u_ws C T N, w ∈ tb2) ∧ j < N ∧ nf ci = N ∧ (∀ k, k < N → parseFieldDescriptor (T k).2.2.1 = some (ty0 k)) ∧ (∀ a, a < N → ∀ b, b < N → a ≠ b → (T a).2.1 ≠ (T b).2.1) ∧ (Cond.fieldLink own idx (T j).1 (T j).2.1 (T j).2.2.1 ∈ tb2 ∨ ∃ host, Cond.fieldLinkNest own idx (T j).1 (T j).2.1 (T j).2.2.1 host ∈ tb2) ∧ (T j).2.2.2 = false ∧ ty0 j = ty
section ROWS2
variable {Out : Type} {κ : Kx Out} {o : Option Out} {cc : ByteArray} {own : String} {n pc q : Nat} {ls : List (Nat × Value)} {st : List Value} {h : Hp}
theorem x_getv (C : Gd κ cc own n) {idx ci j k : Nat} (d : decode cc pc = .ok (.getfield idx, 3)) (F : FL own idx ci j) (hk : sk k = ci) {H : Heap} {locs : List Loc} {arr : Array Slot} {Q : State → Prop} {rest : List Value} (hP : va_P (kD κ) vwCl (wld (kad κ) (kcs κ) h) H) (kk : Wk κ Q H locs (F0 (km κ) (pc + 3) arr (fv (kad κ) h k j :: rest))) : Wk κ Q H locs (F0 (km κ) pc arr (.ref (kad κ k) :: rest)) := by
  obtain ⟨Cn, T, N, ty0, hc, hci, hin, hj, hN, hty, hnm, hl⟩ := F
  have hk9 : k < 93 := sk_lt hk (by omega)
  have he : (wld (kad κ) (kcs κ) h)[k]? = some (kad κ k, .inr (ci, (List.range (nf ci)).map (fv (kad κ) h k))) := by rw [wld_get hk9, ce_obj hk hci]
  have hv : ((List.range (nf ci)).map (fv (kad κ) h k))[j]? = some (fv (kad κ) h k j) := by
    rw [List.getElem?_map, List.getElem?_range (by omega)]; rfl
  rcases hl with hl | ⟨host, hl⟩
  · exact va_get C.x C.b C.ts hin C.ow C.K hP k he hc j hj (C.ts _ hl) (fun _ h9 => h9) hv d kk
  · exact va_getN C.x C.b C.ts hin C.ow C.K hP k he hc j hj (C.ts _ hl) (fun _ h9 => h9) hv d kk
theorem x_getI (q : Nat) (C : Gd κ cc own n) {idx ci j k : Nat} (d : decode cc pc = .ok (.getfield idx, 3)) (F : FL own idx ci j) (hk : sk k = ci) (hr : isR ci j = false) (hq : pc + 3 = q) (kk : Xz κ o q ls (.int (h.1 k j) :: st) h) : Xz κ o pc ls (.ref k :: st) h := by
  subst hq
  refine fun out ho H locs arr hP hS hl => x_getv C d F hk hP ?_
  have hv : fv (kad κ) h k j = .int (h.1 k j) := by unfold fv; rw [hk, hr]; rfl
  rw [hv]
  exact kk out ho H locs arr hP hS hl
theorem x_getR (q : Nat) (C : Gd κ cc own n) {idx ci j k c : Nat} (d : decode cc pc = .ok (.getfield idx, 3)) (F : FL own idx ci j) (hk : sk k = ci) (hr : isR ci j = true) (hc : sr k j = c) (hq : pc + 3 = q) (kk : Xz κ o q ls (.ref c :: st) h) : Xz κ o pc ls (.ref k :: st) h := by
  subst hq
  subst hc
  refine fun out ho H locs arr hP hS hl => x_getv C d F hk hP ?_
  have hv : fv (kad κ) h k j = .ref (kad κ (sr k j)) := by unfold fv; rw [hk, hr]; rfl
  rw [hv]
  exact kk out ho H locs arr hP hS hl
theorem x_put (q : Nat) (C : Gd κ cc own n) {idx ci j k : Nat} {ty : FieldType} {v : Int32} {T : Hp → Option Out} (d : decode cc pc = .ok (.putfield idx, 3)) (F : FP own idx ci j ty) (hk : sk k = ci) (hr : isR ci j = false) (hn : narrow ty (.int v) = .int v) (hf : fits ty (.int v) = true) (hq : pc + 3 = q) (kk : ∀ h', Xz κ (T h') q ls st h') : Xz κ (nm (uf h k j v) T) pc ls (.int v :: .ref k :: st) h := by
  subst hq
  intro out ho H locs arr hP hS hl
  obtain ⟨Cn, Tn, N, ty0, hc, hci, hin, hj, hN, hty, hnm, hlk, hfin, hty0⟩ := F
  have hk9 : k < 93 := sk_lt hk (by omega)
  have he : (wld (kad κ) (kcs κ) h)[k]? = some (kad κ k, .inr (ci, (List.range (nf ci)).map (fv (kad κ) h k))) := by rw [wld_get hk9, ce_obj hk hci]
  have hset : (wld (kad κ) (kcs κ) h).set k (kad κ k, .inr (ci, ((List.range (nf ci)).map (fv (kad κ) h k)).set j (.int v))) = wld (kad κ) (kcs κ) (uf h k j v) :=
    wld_set hk9 (by rw [ce_obj hk hci, set_fld hk (by omega) hr]) (fun a ha => ce_ext (uf_ne ha) rfl)
  have hd : parseFieldDescriptor (Tn j).2.2.1 = some ty := by rw [← hty0]; exact hty j hj
  have kf : ∀ (H1 : Heap) (locs1 : List Loc), va_P (kD κ) vwCl ((wld (kad κ) (kcs κ) h).set k (kad κ k, .inr (ci, ((List.range (nf ci)).map (fv (kad κ) h k)).set j (.int v)))) H1 → va_D (kA κ) ((wld (kad κ) (kcs κ) h).set k (kad κ k, .inr (ci, ((List.range (nf ci)).map (fv (kad κ) h k)).set j (.int v)))) → va_S (kA κ) (ks κ).heap H1 locs1 → Wk κ (kQ κ out) H1 locs1 (F0 (km κ) (pc + 3) arr (st.map (mv (kad κ)))) := by
    intro H1 locs1 hP1 _ hS1
    rw [hset] at hP1
    exact kk _ out ho H1 locs1 arr hP1 hS1 hl
  rcases hlk with hlk | ⟨host, hlk⟩
  · exact va_put C.x C.b C.ts hin ty0 hty hnm C.ow C.K hP (C.D h) hS k he hc j hj (C.ts _ hlk) (fun _ h9 => h9) hfin hd hn hf (by simp; omega) d kf
  · exact va_putN C.x C.b C.ts hin ty0 hty hnm C.ow C.K hP (C.D h) hS k he hc j hj (C.ts _ hlk) (fun _ h9 => h9) hfin hd hn hf (by simp; omega) d kf
theorem x_iald (q : Nat) (C : Gd κ cc own n) {k N : Nat} {i : Int32} (d : decode cc pc = .ok (.iaload, 1)) (hk : sk k = 9) (hN : sl k = N) (hq : pc + 1 = q) (kk : Xz κ o q ls (.int (ia h k i) :: st) h) : Xz κ (ck i N o) pc ls (.int i :: .ref k :: st) h := by
  subst hq
  subst hN
  refine x_ck fun hin out ho H locs arr hP hS hl => ?_
  have hk9 : k < 93 := sk_lt hk (by omega)
  exact va_iald C.x C.b C.K hP k 0 (by rw [wld_get hk9, ce_int hk]) rfl hin d (kk out ho H locs arr hP hS hl)
theorem x_ialc (q : Nat) (C : Gd κ cc own n) {k N j : Nat} {i : Int32} (d : decode cc pc = .ok (.iaload, 1)) (hk : sk k = 9) (hN : sl k = N) (hin : vp_in i N) (hj : i.toNatClampNeg = j) (hq : pc + 1 = q) (kk : Xz κ o q ls (.int (h.1 k j) :: st) h) : Xz κ o pc ls (.int i :: .ref k :: st) h := by
  subst hq
  subst hN
  subst hj
  refine fun out ho H locs arr hP hS hl => ?_
  have hk9 : k < 93 := sk_lt hk (by omega)
  exact va_iald C.x C.b C.K hP k 0 (by rw [wld_get hk9, ce_int hk]) rfl hin d (kk out ho H locs arr hP hS hl)
theorem x_lald (q : Nat) (C : Gd κ cc own n) {k N : Nat} {i : Int32} (d : decode cc pc = .ok (.laload, 1)) (hk : sk k = 10) (hN : sl k = N) (hq : pc + 1 = q) (kk : Xz κ o q ls (.long (la h k i) :: st) h) : Xz κ (ck i N o) pc ls (.int i :: .ref k :: st) h := by
  subst hq
  subst hN
  refine x_ck fun hin out ho H locs arr hP hS hl => ?_
  have hk9 : k < 93 := sk_lt hk (by omega)
  exact va_lald C.x C.b C.K hP k 1 (by rw [wld_get hk9, ce_long hk]) rfl hin d (kk out ho H locs arr hP hS hl)
theorem x_aald (q : Nat) (C : Gd κ cc own n) {i : Int32} (d : decode cc pc = .ok (.aaload, 1)) (hq : pc + 1 = q) (kk : vp_in i 4 → Xz κ o q ls (.ref (60 + 2 * i.toNatClampNeg) :: st) h) : Xz κ (ck i 4 o) pc ls (.int i :: .ref 59 :: st) h := by
  subst hq
  refine x_ck fun hin out ho H locs arr hP hS hl => ?_
  have hlt : i.toNatClampNeg < 4 := Nat.not_le.mp fun q => hin (Or.inr q)
  have hs : ∀ z, z < 4 → sr 59 z = 60 + 2 * z := by decide +kernel
  have he : (wld (kad κ) (kcs κ) h)[59]? = some (kad κ 59, .inl ((kcs κ).2.2, 4, .inr (.inr (.inr (.inr (fun i => some (kad κ (sr 59 i)))))))) := by
    rw [wld_get (by decide), ce_ref (by decide +kernel)]; rfl
  have k1 := kk hin out ho H locs arr hP hS hl
  rw [← hs _ hlt] at k1
  exact va_aldq C.x C.b C.K hP 59 2 he rfl hin d k1
theorem x_iast (q : Nat) (C : Gd κ cc own n) {k N : Nat} {i v : Int32} {T : Hp → Option Out} (d : decode cc pc = .ok (.iastore, 1)) (hk : sk k = 9) (hN : sl k = N) (hq : pc + 1 = q) (kk : ∀ h', Xz κ (T h') q ls st h') : Xz κ (ck i N (nm (ux h k i v) T)) pc ls (.int v :: .int i :: .ref k :: st) h := by
  subst hq
  subst hN
  refine x_ck fun hin out ho H locs arr hP hS hl => ?_
  have hk9 : k < 93 := sk_lt hk (by omega)
  have hset : (wld (kad κ) (kcs κ) h).set k (kad κ k, .inl ((kcs κ).1, sl k, .inl (upd (h.1 k) i.toNatClampNeg v))) = wld (kad κ) (kcs κ) (ux h k i v) :=
    wld_set hk9 (by rw [ce_int hk]; show _ = Sum.inl (_, _, Sum.inl ((uf h k i.toNatClampNeg v).1 k)); rw [uf_at]) (fun a ha => ce_ext (uf_ne ha) rfl)
  refine va_iast C.x C.b C.K hP (C.D h) hS k 0 (by rw [wld_get hk9, ce_int hk]) rfl hin d (fun H1 locs1 hP1 _ hS1 => ?_)
  rw [hset] at hP1
  exact kk _ out ho H1 locs1 arr hP1 hS1 hl
theorem x_last (q : Nat) (C : Gd κ cc own n) {k N : Nat} {i : Int32} {v : Int64} {T : Hp → Option Out} (d : decode cc pc = .ok (.lastore, 1)) (hk : sk k = 10) (hN : sl k = N) (hq : pc + 1 = q) (kk : ∀ h', Xz κ (T h') q ls st h') : Xz κ (ck i N (nm (uy h k i v) T)) pc ls (.long v :: .int i :: .ref k :: st) h := by
  subst hq
  subst hN
  refine x_ck fun hin out ho H locs arr hP hS hl => ?_
  have hk9 : k < 93 := sk_lt hk (by omega)
  have hset : (wld (kad κ) (kcs κ) h).set k (kad κ k, .inl ((kcs κ).2.1, sl k, .inr (.inl (vp_updL (h.2 k) i.toNatClampNeg v)))) = wld (kad κ) (kcs κ) (uy h k i v) :=
    wld_set hk9 (by rw [ce_long hk]; show _ = Sum.inl (_, _, Sum.inr (Sum.inl ((ul h k i.toNatClampNeg v).2 k))); rw [ul_at]) (fun a ha => ce_ext rfl (ul_ne ha))
  refine va_last C.x C.b C.K hP (C.D h) hS k 1 (by rw [wld_get hk9, ce_long hk]) rfl hin d (fun H1 locs1 hP1 _ hS1 => ?_)
  rw [hset] at hP1
  exact kk _ out ho H1 locs1 arr hP1 hS1 hl
theorem x_alen (q : Nat) (C : Gd κ cc own n) {k N : Nat} (d : decode cc pc = .ok (.arraylength, 1)) (hk : sk k = 9) (hN : sl k = N) (hq : pc + 1 = q) (kk : Xz κ o q ls (.int (nI N) :: st) h) : Xz κ o pc ls (.ref k :: st) h := by
  subst hq
  subst hN
  refine fun out ho H locs arr hP hS hl => ?_
  have hk9 : k < 93 := sk_lt hk (by omega)
  exact va_alen C.x C.b C.K hP k 0 (x := (sl k, .inl (h.1 k))) (by rw [wld_get hk9, ce_int hk]) rfl rfl d (kk out ho H locs arr hP hS hl)
/-! returns -/
def qE {Out : Type} (ad : Nat → Nat) (D : va_G) (cs : C3) (A : Nat → Prop) (enc : Out → Hp × Option Value) (out : Out) : Array Value → State → Outcome → State → Prop := fun _ s0 oc t => oc = .returned ((enc out).2.map (mv ad)) ∧ va_P D vwCl (wld ad cs (enc out).1) t.heap ∧ va_F A s0 t
def Ge {Out : Type} (κ : Kx Out) (enc : Out → Hp × Option Value) (ret : Option FieldType) : Prop := kQ κ = (fun out => MQ (kb κ) (qE (kad κ) (kD κ) (kcs κ) (kA κ) enc out) (ka κ) (ks κ) (kcl κ) (ksl κ) (kA κ)) ∧ (kme κ).sig.returnType = ret
def eI (o : Hp × Int32) : Hp × Option Value := (o.1, some (.int o.2))
def eL (o : Hp × Int64) : Hp × Option Value := (o.1, some (.long o.2))
def eR (o : Hp × Nat) : Hp × Option Value := (o.1, some (.ref o.2))
def eV (o : Hp) : Hp × Option Value := (o, none)
def rI (h : Hp) (o : Int32) : Hp × Option Value := (h, some (.int o))
def rL (h : Hp) (o : Int64) : Hp × Option Value := (h, some (.long o))
def rR (h : Hp) (o : Nat) : Hp × Option Value := (h, some (.ref o))
theorem x_iret (C : Gd κ cc own n) {enc : Out → Hp × Option Value} (E : Ge κ enc (some .int)) {v : Int32} {u : Out} (d : decode cc pc = .ok (.ireturn, 1)) (hu : enc u = (h, some (.int v))) : Xz κ (some u) pc ls [.int v] h := by
  intro out ho H locs arr hP hS hl
  cases ho
  rw [E.1]
  exact W.iret C.x C.b E.2 (fun t ht hW => ⟨by rw [hu]; rfl, by rw [hu, ht]; exact hP, hS.F ht⟩) hS.2.2 d C.lk
theorem x_zret (C : Gd κ cc own n) {enc : Out → Hp × Option Value} (E : Ge κ enc (some .boolean)) {v : Int32} {u : Out} (d : decode cc pc = .ok (.ireturn, 1)) (hv : v = 0 ∨ v = 1) (hu : enc u = (h, some (.int v))) : Xz κ (some u) pc ls [.int v] h := by
  intro out ho H locs arr hP hS hl
  cases ho
  rw [E.1]
  exact W.zret C.x C.b E.2 (by rcases hv with rfl | rfl <;> rfl) (fun t ht hW => ⟨by rw [hu]; rfl, by rw [hu, ht]; exact hP, hS.F ht⟩) hS.2.2 d C.lk
theorem x_zrc (C : Gd κ cc own n) {enc : Out → Hp × Option Value} (E : Ge κ enc (some .boolean)) {v : Int32} {u : Out} (d : decode cc pc = .ok (.ireturn, 1)) (hu : enc u = (h, some (.int v))) : Xz κ (cy (v = 0 ∨ v = 1) (some u)) pc ls [.int v] h :=
  x_cy fun hv => x_zret C E d hv hu
theorem x_lret (C : Gd κ cc own n) {enc : Out → Hp × Option Value} (E : Ge κ enc (some .long)) {v : Int64} {u : Out} (d : decode cc pc = .ok (.lreturn, 1)) (hu : enc u = (h, some (.long v))) : Xz κ (some u) pc ls [.long v] h := by
  intro out ho H locs arr hP hS hl
  cases ho
  rw [E.1]
  exact W.lret C.x C.b E.2 (fun t ht hW => ⟨by rw [hu]; rfl, by rw [hu, ht]; exact hP, hS.F ht⟩) hS.2.2 d C.lk
theorem x_aret (C : Gd κ cc own n) {enc : Out → Hp × Option Value} {cn : String} (E : Ge κ enc (some (.object cn))) {v : Nat} {u : Out} (d : decode cc pc = .ok (.areturn, 1)) (hu : enc u = (h, some (.ref v))) : Xz κ (some u) pc ls [.ref v] h := by
  intro out ho H locs arr hP hS hl
  cases ho
  rw [E.1]
  exact W.aret C.x C.b E.2 (Or.inl ⟨_, rfl⟩) (Or.inr ⟨_, rfl⟩) (fun t ht hW => ⟨by rw [hu]; rfl, by rw [hu, ht]; exact hP, hS.F ht⟩) hS.2.2 d C.lk
theorem x_vret (C : Gd κ cc own n) {enc : Out → Hp × Option Value} (E : Ge κ enc none) {u : Out} (d : decode cc pc = .ok (.return_, 1)) (hu : enc u = (h, none)) : Xz κ (some u) pc ls [] h := by
  intro out ho H locs arr hP hS hl
  cases ho
  rw [E.1]
  exact W.vret C.x C.b E.2 (fun t ht hW => ⟨by rw [hu]; rfl, by rw [hu, ht]; exact hP, hS.F ht⟩) hS.2.2 d C.lk
/-! switches -/
theorem x_tabO (tgt : Nat) (C : Gd κ cc own n) {dflt lo hi : Int} {offs : Array Int} {len : Nat} {x : Int32} (d : decode cc pc = .ok (.tableswitch dflt lo hi offs, len)) (hx : x.toInt < lo ∨ hi < x.toInt) (ht : (pc : Int) + dflt = (tgt : Int)) (k : Xz κ o tgt ls st h) : Xz κ o pc ls (.int x :: st) h :=
  fun out ho H locs arr hP hS hl => lv_tableOut C.x C.b d hx ht (k out ho H locs arr hP hS hl)
theorem x_tabI (tgt : Nat) (C : Gd κ cc own n) {dflt lo hi : Int} {offs : Array Int} {len : Nat} {x c : Int32} {off : Int} (d : decode cc pc = .ok (.tableswitch dflt lo hi offs, len)) (hx : x = c) (h1 : ¬ c.toInt < lo) (h2 : ¬ hi < c.toInt) (hof : offs[(c.toInt - lo).toNat]? = some off) (ht : (pc : Int) + off = (tgt : Int)) (k : Xz κ o tgt ls st h) : Xz κ o pc ls (.int x :: st) h := by
  subst hx
  exact fun out ho H locs arr hP hS hl => lv_tableIn C.x C.b d h1 h2 hof ht (k out ho H locs arr hP hS hl)
theorem x_lkp (tgt : Nat) (C : Gd κ cc own n) {dflt : Int} {ps : Array (Int × Int)} {len : Nat} {x : Int32} {off : Int} (d : decode cc pc = .ok (.lookupswitch dflt ps, len)) (hp : (ps.toList.zip (ps.toList.drop 1)).all (fun (a, next) => a.1 < next.1) = true) (hof : Op.lookupswitch.offset ps.toList dflt x.toInt = off) (ht : (pc : Int) + off = (tgt : Int)) (k : Xz κ o tgt ls st h) : Xz κ o pc ls (.int x :: st) h :=
  fun out ho H locs arr hP hS hl => lv_lookup C.x C.b d hp hof ht (k out ho H locs arr hP hS hl)
/-! Math, arraycopy -/
def jmax (x y : Int32) : Int32 := if x < y then y else x
def jmin (x y : Int32) : Int32 := if y < x then y else x
def jabs (x : Int32) : Int32 := if 0 ≤ x then x else 0 - x
theorem mc_sum {ad : Nat → Nat} (l : List Value) : ((l.map (mv ad)).map fun v => v.category) = l.map fun v => v.category := by
  rw [List.map_map]; apply List.map_congr_left; intro v _; exact mv_cat _ _
theorem x_mmax (q : Nat) (C : Gd κ cc own n) {idx : Nat} {x y : Int32} (d : decode cc pc = .ok (.invokestatic idx, 3)) (w1 : Cond.methodLink own idx Lib.Math.max.name ∈ tb2) (w2 : Cond.static Lib.Math.max.name ∈ tb2) (w3 : Cond.initialized "java/lang/Math" ∈ tb2) (w4 : Cond.code Lib.Math.max.name Lib.Math.max.code 2 (some .int) ∈ tb2) (hn : 1 ≤ n) (hs : (st.map fun v => v.category).sum ≤ 8) (hq : pc + 3 = q) (k : Xz κ o q ls (.int (jmax x y) :: st) h) : Xz κ o pc ls (.int y :: .int x :: st) h := by
  subst hq
  refine fun out ho H locs arr hP hS hl => va_mmax C.x C.b (by rw [C.ml, hl.1]) C.ow (C.ts _ w1) (C.ts _ w2) (C.ts _ w3) (C.ts _ w4) (Nat.le_trans hn C.fr) (by rw [mc_sum]; have := C.lo; omega) C.cl C.sl d (k out ho H locs arr hP hS hl)
theorem x_mmin (q : Nat) (C : Gd κ cc own n) {idx : Nat} {x y : Int32} (d : decode cc pc = .ok (.invokestatic idx, 3)) (w1 : Cond.methodLink own idx Lib.Math.min.name ∈ tb2) (w2 : Cond.static Lib.Math.min.name ∈ tb2) (w3 : Cond.initialized "java/lang/Math" ∈ tb2) (w4 : Cond.code Lib.Math.min.name Lib.Math.min.code 2 (some .int) ∈ tb2) (hn : 1 ≤ n) (hs : (st.map fun v => v.category).sum ≤ 8) (hq : pc + 3 = q) (k : Xz κ o q ls (.int (jmin x y) :: st) h) : Xz κ o pc ls (.int y :: .int x :: st) h := by
  subst hq
  refine fun out ho H locs arr hP hS hl => va_mmin C.x C.b (by rw [C.ml, hl.1]) C.ow (C.ts _ w1) (C.ts _ w2) (C.ts _ w3) (C.ts _ w4) (Nat.le_trans hn C.fr) (by rw [mc_sum]; have := C.lo; omega) C.cl C.sl d (k out ho H locs arr hP hS hl)
theorem x_mabs (q : Nat) (C : Gd κ cc own n) {idx : Nat} {x : Int32} (d : decode cc pc = .ok (.invokestatic idx, 3)) (w1 : Cond.methodLink own idx Lib.Math.abs.name ∈ tb2) (w2 : Cond.static Lib.Math.abs.name ∈ tb2) (w3 : Cond.initialized "java/lang/Math" ∈ tb2) (w4 : Cond.code Lib.Math.abs.name Lib.Math.abs.code 1 (some .int) ∈ tb2) (hn : 1 ≤ n) (hs : (st.map fun v => v.category).sum ≤ 8) (hq : pc + 3 = q) (k : Xz κ o q ls (.int (jabs x) :: st) h) : Xz κ o pc ls (.int x :: st) h := by
  subst hq
  refine fun out ho H locs arr hP hS hl => va_mabs C.x C.b (by rw [C.ml, hl.1]) C.ow (C.ts _ w1) (C.ts _ w2) (C.ts _ w3) (C.ts _ w4) (Nat.le_trans hn C.fr) (by rw [mc_sum]; have := C.lo; omega) C.cl C.sl d (k out ho H locs arr hP hS hl)
theorem x_acp (q : Nat) (C : Gd κ cc own n) {idx a b : Nat} {N : Nat} {i j m : Int32} {T : Hp → Option Out} (d : decode cc pc = .ok (.invokestatic idx, 3)) (w1 : Cond.methodLink own idx arraycopyName ∈ tb2) (w2 : Cond.native arraycopyName ∈ tb2) (w3 : Cond.static arraycopyName ∈ tb2) (w4 : Cond.initialized "java/lang/System" ∈ tb2) (hn : 1 ≤ n) (ha : sk a = 9) (hb : sk b = 9) (hNa : sl a = N) (hNb : sl b = N) (hs : (st.map fun v => v.category).sum ≤ 4) (hq : pc + 3 = q) (k : ∀ h', Xz κ (T h') q ls st h') :
    Xz κ (cy (¬ i < 0 ∧ ¬ j < 0 ∧ ¬ m < 0 ∧ i.toNatClampNeg + m.toNatClampNeg ≤ N ∧ j.toNatClampNeg + m.toNatClampNeg ≤ N) (nm (ucp h a b i j m) T)) pc ls (.int m :: .int j :: .ref b :: .int i :: .ref a :: st) h := by
  subst hq
  subst hNa
  refine x_cy fun hc out ho H locs arr hP hS hl => ?_
  obtain ⟨h1, h2, h3, h4, h5⟩ := hc
  have ha9 : a < 93 := sk_lt ha (by omega)
  have hb9 : b < 93 := sk_lt hb (by omega)
  have hset : (wld (kad κ) (kcs κ) h).set b (kad κ b, .inl ((kcs κ).1, sl b, .inl (va_cpy (h.1 a) (h.1 b) i.toNatClampNeg j.toNatClampNeg m.toNatClampNeg))) = wld (kad κ) (kcs κ) (ucp h a b i j m) :=
    wld_set hb9 (by rw [ce_int hb]; simp [ucp]) (fun z hz => ce_ext (by simp [ucp, hz]) rfl)
  refine va_copyi C.x C.b (by rw [C.ml, hl.1]) C.ow (C.ts _ w1) (C.ts _ w2) (C.ts _ w3) (C.ts _ w4) C.K hP (C.D h) hS a b 0 0 (ty := .int) (by rw [wld_get ha9, ce_int ha]) (by rw [wld_get hb9, ce_int hb]) rfl rfl rfl h1 h2 h3 h4 (by rw [hNb]; exact h5) (fun _ _ => rfl) (Nat.le_trans hn C.fr) ?_ d (fun H1 locs1 hP1 _ hS1 => ?_)
  · rw [mc_sum]
    have hw : nativeFrameWords "java/lang/System" "arraycopy" 5 + 11 ≤ 36 := by decide +kernel
    have := C.lo
    omega
  · rw [hset] at hP1
    exact k _ out ho H1 locs1 arr hP1 hS1 hl
end ROWS2
end
section
/-! calls: a method's contract over the whole world -/
theorem tbl_ok : tb2.all (fun w => (w.onTables && w.keeps) || isNest w || isAC w || isAO w) = true := List.all_eq_true.mpr fun w hw => (List.mem_filter.mp hw).2
def TB (U : State) : Prop := ∀ w ∈ tb2, va_Nw w U
theorem tb_warm {args : Array Value} {s U : State} (hW : s.WarmedH U.vm) (ht : ∀ w ∈ tb2, w.before args s = true) : TB U := by
  intro w hw
  have h0 := ht w hw
  have h1 := List.all_eq_true.mp tbl_ok w hw
  simp only [Bool.or_eq_true] at h1
  rcases h1 with ((h1 | h1) | h1) | h1
  · exact word_at hW (Or.inl h1) h0
  · unfold isNest at h1
    split at h1
    · exact va_Nw.warmF hW (va_Nw.of rfl h0)
    · exact va_Nw.warmM hW (va_Nw.of rfl h0)
    · cases h1
  · unfold isAC at h1
    split at h1
    · exact word_at hW (Or.inr ⟨_, rfl⟩) h0
    · cases h1
  · unfold isAO at h1
    split at h1
    · exact va_AO.moved hW.alike (va_AO.of h0)
    · cases h1
theorem tb_use {args : Array Value} {U : State} (ht : TB U) : ∀ w ∈ tb2, w.before args U = true := by
  intro w hw
  have h0 := ht w hw
  have h1 := List.all_eq_true.mp tbl_ok w hw
  simp only [Bool.or_eq_true] at h1
  rcases h1 with ((h1 | h1) | h1) | h1
  · exact word_at (State.WarmedH.refl U) (Or.inl h1) h0
  · unfold isNest at h1
    split at h1
    · exact va_Nw.use rfl h0
    · exact va_Nw.use rfl h0
    · cases h1
  · unfold isAC at h1
    split at h1
    · exact word_at (State.WarmedH.refl U) (Or.inr ⟨_, rfl⟩) h0
    · cases h1
  · unfold isAO at h1
    split at h1
    · exact va_AO.use h0
    · cases h1
theorem tb_move {U U' : State} (h : U'.vm = U.vm) (ht : TB U) : TB U' := tb_warm (s := U) (args := #[]) (by rw [h]; exact State.WarmedH.refl U) ht
def pcW (ad : Nat → Nat) (D : va_G) (cs : C3) (av : List Value) (h : Hp) : Array Value → State → Prop := fun a U => a = (av.map (mv ad)).toArray ∧ TB U ∧ va_K D vwCl (ty3 cs) U ∧ ij ad ∧ va_P D vwCl (wld ad cs h) U.heap
def rmL (lev : Nat) : Room := { frames := lev, cells := 0, slots := 0, locals := 40 * lev }
def idR (r : Hp × Option Value) : Hp × Option Value := r
def Ct (y : MethodName) (bytes : ByteArray) (nL : Nat) (ret : Option FieldType) (lev : Nat) (av : List Value) (h : Hp) (res : Hp × Option Value) : Prop :=
  ∀ (l : Launch) (ad : Nat → Nat) (D : va_G) (cs : C3), Met l y [.code y bytes nL ret] (rmL lev) (pcW ad D cs av h) (qE ad D cs (inW ad) idR res) 0 0 (inW ad)
theorem pcW_blind (ad : Nat → Nat) (D : va_G) (cs : C3) (av : List Value) (h : Hp) : FrameBlind (pcW ad D cs av h) := by
  intro a U g mk q
  obtain ⟨q1, q2, q3, q4, q5⟩ := q
  exact ⟨q1, tb_move (U := U) (U' := U.calling g mk a) rfl q2, va_K.moved (u := U) (U := U.calling g mk a) (Vm.Alike.refl U.vm) q3, q4, q5⟩
theorem la_map (ad : Nat → Nat) : ∀ (av : List Value) (i : Nat), lv_args i (av.map (mv ad)) = (lv_args i av).map (mp ad)
  | [], i => rfl
  | v :: vs, i => by
    simp only [List.map_cons, lv_args, mv_cat]
    rw [la_map ad vs]
    rfl
theorem sl_map (ad : Nat → Nat) : ∀ (av : List Value), (lg_sl (av.map (mv ad))).length = (lg_sl av).length
  | [] => rfl
  | v :: vs => by
    have := sl_map ad vs
    unfold lg_sl at this ⊢
    simp only [List.map_cons, List.flatMap_cons, List.length_append, mv_cat, this]
    split <;> rfl
/-- a method's contract out of its walk -/
theorem ct_of {Out : Type} (enc : Out → Hp × Option Value) {y : MethodName} {bytes : ByteArray} {nL lev : Nat} {ret : Option FieldType} {av : List Value} {h : Hp} {o : Option Out} {u : Out} (hu : o = some u) (hy : plainName y.cls = true) (hlen : (lg_sl av).length ≤ nL)
    (body : ∀ κ : Kx Out, kn κ = nL → Gd κ bytes y.cls lev → Ge κ enc ret → Xz κ o 0 (lv_args 0 av) [] h) : Ct y bytes nL ret lev av h (enc u) := by
  intro l ad D cs
  refine Met.ofW (cc := bytes) (maxL := nL) (ret := ret) hy rfl ?_
  intro p e s m args below meth c s₁ B hml hv
  obtain ⟨rfl, hTB, hK, hij, hP⟩ := hv
  have hown : s.vm.findClass y.cls = some m.cls := findClass_of_methodNamed B.named
  have hl := lv_entry (av.map (mv ad)) (n := nL) (by rw [sl_map]; exact hlen)
  rw [lg_entry_eq]
  rw [la_map] at hl
  have hb := body ((p, l, e, (headSpec [.code y bytes nL ret] (rmL lev)).room, s, m, (av.map (mv ad)).toArray, below, meth, c), ad, D, cs, inW ad, nL, 0, 0, fun out => MQ below (qE ad D cs (inW ad) enc out) (av.map (mv ad)).toArray s 0 0 (inW ad)) rfl
    ⟨B.exec, B.bytes, hml, hown, tb_use hTB, hK, hij, fun k hk => ⟨k, hk, rfl⟩, Nat.le_refl _, Nat.le_refl _, Nat.zero_le _, Nat.zero_le _, B.notSynchronized⟩ ⟨rfl, B.returns⟩
  exact hb u hu s.heap [] _ hP va_S.rf hl
section CALLS
variable {Out : Type} {κ : Kx Out} {o : Option Out} {cc : ByteArray} {own : String} {n pc q : Nat} {ls : List (Nat × Value)} {st : List Value} {h : Hp}
theorem x_ran {Oc : Type} (enc : Oc → Hp × Option Value) {oc : Option Oc} {T : Oc → Option Out} {stk rest : List Value} (C : Gd κ cc own n) (hq : pc + 3 = q) (ho : ∀ out, o = some out → ∃ u, oc = some u ∧ T u = some out)
    (run : ∀ u, oc = some u → ∀ (H : Heap) (locs : List Loc) (arr : Array Slot), va_P (kD κ) vwCl (wld (kad κ) (kcs κ) h) H → arr.size = kn κ → ∃ a : Array Value, va_Run (kp κ) (kl κ) (ke κ) (kR κ) (ks κ) (km κ) (ka κ) (kb κ) (kme κ) (kc κ) H locs (kcl κ) (ksl κ) 0 0 (F0 (km κ) pc arr (stk.map (mv (kad κ)))) (rest.map (mv (kad κ))) (qE (kad κ) (kD κ) (kcs κ) (inW (kad κ)) idR (enc u) a) (inW (kad κ)))
    (k : ∀ u, Xz κ (T u) q ls ((enc u).2.toList ++ rest) (enc u).1) : Xz κ o pc ls stk h := by
  subst hq
  intro out ho' H locs arr hP hS hl
  obtain ⟨u, hu, hT⟩ := ho out ho'
  obtain ⟨a, hr⟩ := run u hu H locs arr hP hl.1
  intro T0 hT0 X
  obtain ⟨v, st0, t, T', L, h0, X', hL, e1, e2, ⟨hv, hP1, hF⟩, go⟩ := hr T0 hT0 X
  cases hv
  have hS' : va_S (kA κ) (ks κ).heap T'.heap (locs ++ L) := by
    rw [e1]
    unfold va_F at hF
    rw [h0] at hF
    refine ⟨Nat.le_trans hS.1 hF.1, fun z h1 h2 => ?_, fun z hz => ?_⟩
    · rw [hF.2 z (Nat.lt_of_lt_of_le h1 hS.1) (fun ⟨w, w1, w2⟩ => h2 (by rw [w2]; exact C.A w w1))]
      exact hS.2.1 z h1 h2
    · rcases List.mem_append.mp hz with hz | hz
      · exact hS.2.2 z hz
      · obtain ⟨w, w1, w2⟩ := hL z hz
        rw [w2]
        exact C.A w w1
  have k1 := k u out hT T'.heap (locs ++ L) arr (by rw [e1]; exact hP1) hS' hl T' rfl X'
  obtain ⟨t2, a1, b1⟩ := k1
  refine ⟨t2, go t2 ?_, b1⟩
  have es : (Option.map (mv (kad κ)) (idR (enc u)).2).toList ++ rest.map (mv (kad κ)) = ((enc u).2.toList ++ rest).map (mv (kad κ)) := by
    unfold idR
    cases (enc u).2 <;> rfl
  rw [es]
  exact a1
/-- an instance method, as the class own calls it by its index -/
def CV (own : String) (idx ci : Nat) (y : MethodName) (bytes : ByteArray) (nL : Nat) (ret : Option FieldType) (m : Nat) : Prop :=
  (∃ (T : u_T) (N : Nat), vwCl[ci]? = some (y.cls, T, N)) ∧ ci < 9 ∧ (Cond.methodLink own idx y ∈ tb2 ∨ ∃ host, Cond.methodLinkNest own idx y host ∈ tb2) ∧ Cond.instanceMethod y ∈ tb2 ∧ Cond.selects y.cls y y ∈ tb2 ∧ Cond.initialized y.cls ∈ tb2 ∧ Cond.code y bytes nL ret ∈ tb2 ∧ (y.cls ≠ "java/lang/invoke/MethodHandle" ∧ y.cls ≠ "java/lang/invoke/VarHandle" ∧ (parseMethodDescriptor y.desc).map (fun d => d.parameters.length) = some m) ∧ nL ≤ 21
def CS (own : String) (idx : Nat) (y : MethodName) (bytes : ByteArray) (nL : Nat) (ret : Option FieldType) (m : Nat) : Prop :=
  (Cond.methodLink own idx y ∈ tb2 ∨ ∃ host, Cond.methodLinkNest own idx y host ∈ tb2) ∧ Cond.static y ∈ tb2 ∧ Cond.initialized y.cls ∈ tb2 ∧ Cond.code y bytes nL ret ∈ tb2 ∧ (y.cls ≠ "java/lang/invoke/MethodHandle" ∧ y.cls ≠ "java/lang/invoke/VarHandle" ∧ (parseMethodDescriptor y.desc).map (fun d => d.parameters.length) = some m) ∧ nL ≤ 21
theorem mc_len {y : MethodName} {m : Nat} (h2 : (parseMethodDescriptor y.desc).map (fun d => d.parameters.length) = some m) : ∀ sig, parseMethodDescriptor y.desc = some sig → m = sig.parameters.length := by
  intro sig hs
  rw [hs] at h2
  exact (Option.some.inj h2).symm
theorem run_v (C : Gd κ cc own n) {idx ci : Nat} {y : MethodName} {bytes : ByteArray} {nL lev m b : Nat} {ret : Option FieldType} {As rest : List Value} {res : Hp × Option Value} (V : CV own idx ci y bytes nL ret m) (hlev : lev + 1 ≤ n) (M : Ct y bytes nL ret lev (.ref b :: As) h res) (hb : sk b = ci) (hm : As.length = m) (hW : (rest.map fun v => v.category).sum ≤ 8) (d : decode cc pc = .ok (.invokevirtual idx, 3))
    {H : Heap} {locs : List Loc} {arr : Array Slot} (hP : va_P (kD κ) vwCl (wld (kad κ) (kcs κ) h) H) (hs : arr.size = kn κ) : va_Run (kp κ) (kl κ) (ke κ) (kR κ) (ks κ) (km κ) (ka κ) (kb κ) (kme κ) (kc κ) H locs (kcl κ) (ksl κ) 0 0 (F0 (km κ) pc arr ((As.reverse ++ .ref b :: rest).map (mv (kad κ)))) (rest.map (mv (kad κ))) (qE (kad κ) (kD κ) (kcs κ) (inW (kad κ)) idR res ((Value.ref b :: As).map (mv (kad κ))).toArray) (inW (kad κ)) := by
  obtain ⟨⟨T, N, hcl⟩, hci, hl, w1, w2, w3, w4, ⟨n1, n2, n3⟩, hnL⟩ := V
  have hb9 : b < 93 := sk_lt hb (by omega)
  have hstack : ((As.reverse ++ .ref b :: rest).map (mv (kad κ))) = (As.map (mv (kad κ))).reverse ++ .ref (kad κ b) :: rest.map (mv (kad κ)) := by
    rw [List.map_append, List.map_reverse]; rfl
  have hpre : PreV (ks κ) H y.cls (kad κ b) (pcW (kad κ) (kD κ) (kcs κ) (.ref b :: As) h) (As.map (mv (kad κ))) :=
    ⟨pcW_blind _ _ _ _ _, va_recv C.K hP hcl (he := by rw [wld_get hb9, ce_obj hb hci]), fun U hU hWm => ⟨rfl, tb_warm hWm C.ts, va_K.moved hWm.alike C.K, C.ij, by rw [hU]; exact hP⟩⟩
  have hcode : ∀ w ∈ [Cond.code y bytes nL ret], ∀ (a' : Array Value) (U : State), (ks κ).WarmedH U.vm → w.before a' U = true := by
    intro w hw a' U hWm
    rw [List.mem_singleton.mp hw]
    exact tb_use (tb_warm hWm C.ts) _ w4
  have hR : lev + 1 ≤ (kR κ).frames ∧ 8 + (nL + 11) + 40 * lev ≤ (kR κ).locals := by
    have := C.fr; have := C.lo; omega
  have hcat : 2 * (F0 (km κ) pc arr ((As.reverse ++ .ref b :: rest).map (mv (kad κ)))).monitorRoom + ((rest.map (mv (kad κ))).map fun v => v.category).sum ≤ 8 := lv_room (by rw [mc_sum]; exact hW)
  rcases hl with hl | ⟨host, hl⟩
  · exact va_runV (Ts := tb2) (own := own) (nL := kn κ) (As := As.map (mv (kad κ))) ⟨C.x, C.b, C.ml, C.ow, C.ts⟩ (M (kl κ) (kad κ) (kD κ) (kcs κ)) ⟨⟨rfl, rfl, hR.1, hR.2, hcode, List.mem_singleton.mpr rfl, C.ts _ w4, C.ts _ w3, ⟨n1, n2⟩, mc_len n3, C.ts _ hl⟩, C.ts _ w1, C.ts _ w2⟩ hpre rfl (by rw [List.length_map]; exact hm) hs hstack hcat d ⟨C.cl, C.sl⟩
  · exact va_runVN (Ts := tb2) (own := own) (nL := kn κ) (As := As.map (mv (kad κ))) ⟨C.x, C.b, C.ml, C.ow, C.ts⟩ (M (kl κ) (kad κ) (kD κ) (kcs κ)) ⟨⟨⟨rfl, rfl, hR.1, hR.2, hcode, List.mem_singleton.mpr rfl⟩, C.ts _ w4, C.ts _ w3, ⟨n1, n2⟩, mc_len n3, C.ts _ hl⟩, C.ts _ w1, C.ts _ w2⟩ hpre rfl (by rw [List.length_map]; exact hm) hs hstack hcat d ⟨C.cl, C.sl⟩
theorem run_s (C : Gd κ cc own n) {idx : Nat} {y : MethodName} {bytes : ByteArray} {nL lev m : Nat} {ret : Option FieldType} {As rest : List Value} {res : Hp × Option Value} (V : CS own idx y bytes nL ret m) (hlev : lev + 1 ≤ n) (M : Ct y bytes nL ret lev As h res) (hm : As.length = m) (hW : (rest.map fun v => v.category).sum ≤ 8) (d : decode cc pc = .ok (.invokestatic idx, 3))
    {H : Heap} {locs : List Loc} {arr : Array Slot} (hP : va_P (kD κ) vwCl (wld (kad κ) (kcs κ) h) H) (hs : arr.size = kn κ) : va_Run (kp κ) (kl κ) (ke κ) (kR κ) (ks κ) (km κ) (ka κ) (kb κ) (kme κ) (kc κ) H locs (kcl κ) (ksl κ) 0 0 (F0 (km κ) pc arr ((As.reverse ++ rest).map (mv (kad κ)))) (rest.map (mv (kad κ))) (qE (kad κ) (kD κ) (kcs κ) (inW (kad κ)) idR res (As.map (mv (kad κ))).toArray) (inW (kad κ)) := by
  obtain ⟨hl, w1, w3, w4, ⟨n1, n2, n3⟩, hnL⟩ := V
  have hstack : ((As.reverse ++ rest).map (mv (kad κ))) = (As.map (mv (kad κ))).reverse ++ rest.map (mv (kad κ)) := by
    rw [List.map_append, List.map_reverse]
  have hpre : PreS (ks κ) H (pcW (kad κ) (kD κ) (kcs κ) As h) (As.map (mv (kad κ))) :=
    ⟨pcW_blind _ _ _ _ _, fun U hU hWm => ⟨rfl, tb_warm hWm C.ts, va_K.moved hWm.alike C.K, C.ij, by rw [hU]; exact hP⟩⟩
  have hcode : ∀ w ∈ [Cond.code y bytes nL ret], ∀ (a' : Array Value) (U : State), (ks κ).WarmedH U.vm → w.before a' U = true := by
    intro w hw a' U hWm
    rw [List.mem_singleton.mp hw]
    exact tb_use (tb_warm hWm C.ts) _ w4
  have hR : lev + 1 ≤ (kR κ).frames ∧ 8 + (nL + 11) + 40 * lev ≤ (kR κ).locals := by
    have := C.fr; have := C.lo; omega
  have hcat : 2 * (F0 (km κ) pc arr ((As.reverse ++ rest).map (mv (kad κ)))).monitorRoom + ((rest.map (mv (kad κ))).map fun v => v.category).sum ≤ 8 := lv_room (by rw [mc_sum]; exact hW)
  rcases hl with hl | ⟨host, hl⟩
  · exact va_runS (Ts := tb2) (own := own) (nL := kn κ) (As := As.map (mv (kad κ))) ⟨C.x, C.b, C.ml, C.ow, C.ts⟩ (M (kl κ) (kad κ) (kD κ) (kcs κ)) ⟨⟨rfl, rfl, hR.1, hR.2, hcode, List.mem_singleton.mpr rfl, C.ts _ w4, C.ts _ w3, ⟨n1, n2⟩, mc_len n3, C.ts _ hl⟩, C.ts _ w1⟩ hpre rfl (by rw [List.length_map]; exact hm) hs hstack hcat d ⟨C.cl, C.sl⟩
  · exact va_runSN (Ts := tb2) (own := own) (nL := kn κ) (As := As.map (mv (kad κ))) ⟨C.x, C.b, C.ml, C.ow, C.ts⟩ (M (kl κ) (kad κ) (kD κ) (kcs κ)) ⟨⟨⟨rfl, rfl, hR.1, hR.2, hcode, List.mem_singleton.mpr rfl⟩, C.ts _ w4, C.ts _ w3, ⟨n1, n2⟩, mc_len n3, C.ts _ hl⟩, C.ts _ w1, trivial⟩ hpre rfl (by rw [List.length_map]; exact hm) hs hstack hcat d ⟨C.cl, C.sl⟩
theorem bnd_inv {α β : Type} {o : Option (Hp × α)} {T : Hp → α → Option β} {out : β} (e : bnd o T = some out) : ∃ u, o = some u ∧ T u.1 u.2 = some out := by
  cases o with
  | none => cases e
  | some u => exact ⟨u, rfl, e⟩
theorem bdv_inv {β : Type} {o : Option Hp} {T : Hp → Option β} {out : β} (e : bdv o T = some out) : ∃ u, o = some u ∧ T u = some out := by
  cases o with
  | none => cases e
  | some u => exact ⟨u, rfl, e⟩
theorem bdr_inv {α β : Type} {o : Option α} {T : α → Option β} {out : β} (e : bdr o T = some out) : ∃ u, o = some u ∧ T u = some out := by
  cases o with
  | none => cases e
  | some u => exact ⟨u, rfl, e⟩
theorem x_cvI (q : Nat) (As rest : List Value) (C : Gd κ cc own n) {idx ci : Nat} {y : MethodName} {bytes : ByteArray} {nL m b : Nat} (lev : Nat) {ret : Option FieldType} {stk : List Value} {oc : Option (Hp × Int32)} {T : Hp → Int32 → Option Out} (d : decode cc pc = .ok (.invokevirtual idx, 3)) (V : CV own idx ci y bytes nL ret m) (M : ∀ u, oc = some u → Ct y bytes nL ret lev (.ref b :: As) h (eI u)) (hst : stk = As.reverse ++ .ref b :: rest) (hb : sk b = ci) (hm : As.length = m) (hlev : lev + 1 ≤ n) (hW : (rest.map fun v => v.category).sum ≤ 8) (hq : pc + 3 = q) (k : ∀ h1 r, Xz κ (T h1 r) q ls (.int r :: rest) h1) : Xz κ (bnd oc T) pc ls stk h := by
  subst hst
  exact x_ran eI (T := fun u => T u.1 u.2) (rest := rest) C hq (fun out e => bnd_inv e) (fun u hu H locs arr hP hs => ⟨_, run_v C V hlev (M u hu) hb hm hW d hP hs⟩) (fun u => k u.1 u.2)
theorem x_csI (q : Nat) (As rest : List Value) (C : Gd κ cc own n) {idx : Nat} {y : MethodName} {bytes : ByteArray} {nL m : Nat} (lev : Nat) {ret : Option FieldType} {stk : List Value} {oc : Option (Hp × Int32)} {T : Hp → Int32 → Option Out} (d : decode cc pc = .ok (.invokestatic idx, 3)) (V : CS own idx y bytes nL ret m) (M : ∀ u, oc = some u → Ct y bytes nL ret lev As h (eI u)) (hst : stk = As.reverse ++ rest) (hm : As.length = m) (hlev : lev + 1 ≤ n) (hW : (rest.map fun v => v.category).sum ≤ 8) (hq : pc + 3 = q) (k : ∀ h1 r, Xz κ (T h1 r) q ls (.int r :: rest) h1) : Xz κ (bnd oc T) pc ls stk h := by
  subst hst
  exact x_ran eI (T := fun u => T u.1 u.2) (rest := rest) C hq (fun out e => bnd_inv e) (fun u hu H locs arr hP hs => ⟨_, run_s C V hlev (M u hu) hm hW d hP hs⟩) (fun u => k u.1 u.2)
theorem x_cvL (q : Nat) (As rest : List Value) (C : Gd κ cc own n) {idx ci : Nat} {y : MethodName} {bytes : ByteArray} {nL m b : Nat} (lev : Nat) {ret : Option FieldType} {stk : List Value} {oc : Option (Hp × Int64)} {T : Hp → Int64 → Option Out} (d : decode cc pc = .ok (.invokevirtual idx, 3)) (V : CV own idx ci y bytes nL ret m) (M : ∀ u, oc = some u → Ct y bytes nL ret lev (.ref b :: As) h (eL u)) (hst : stk = As.reverse ++ .ref b :: rest) (hb : sk b = ci) (hm : As.length = m) (hlev : lev + 1 ≤ n) (hW : (rest.map fun v => v.category).sum ≤ 8) (hq : pc + 3 = q) (k : ∀ h1 r, Xz κ (T h1 r) q ls (.long r :: rest) h1) : Xz κ (bnd oc T) pc ls stk h := by
  subst hst
  exact x_ran eL (T := fun u => T u.1 u.2) (rest := rest) C hq (fun out e => bnd_inv e) (fun u hu H locs arr hP hs => ⟨_, run_v C V hlev (M u hu) hb hm hW d hP hs⟩) (fun u => k u.1 u.2)
theorem x_csL (q : Nat) (As rest : List Value) (C : Gd κ cc own n) {idx : Nat} {y : MethodName} {bytes : ByteArray} {nL m : Nat} (lev : Nat) {ret : Option FieldType} {stk : List Value} {oc : Option (Hp × Int64)} {T : Hp → Int64 → Option Out} (d : decode cc pc = .ok (.invokestatic idx, 3)) (V : CS own idx y bytes nL ret m) (M : ∀ u, oc = some u → Ct y bytes nL ret lev As h (eL u)) (hst : stk = As.reverse ++ rest) (hm : As.length = m) (hlev : lev + 1 ≤ n) (hW : (rest.map fun v => v.category).sum ≤ 8) (hq : pc + 3 = q) (k : ∀ h1 r, Xz κ (T h1 r) q ls (.long r :: rest) h1) : Xz κ (bnd oc T) pc ls stk h := by
  subst hst
  exact x_ran eL (T := fun u => T u.1 u.2) (rest := rest) C hq (fun out e => bnd_inv e) (fun u hu H locs arr hP hs => ⟨_, run_s C V hlev (M u hu) hm hW d hP hs⟩) (fun u => k u.1 u.2)
theorem x_cvR (q : Nat) (As rest : List Value) (C : Gd κ cc own n) {idx ci : Nat} {y : MethodName} {bytes : ByteArray} {nL m b : Nat} (lev : Nat) {ret : Option FieldType} {stk : List Value} {oc : Option (Hp × Nat)} {T : Hp → Nat → Option Out} (d : decode cc pc = .ok (.invokevirtual idx, 3)) (V : CV own idx ci y bytes nL ret m) (M : ∀ u, oc = some u → Ct y bytes nL ret lev (.ref b :: As) h (eR u)) (hst : stk = As.reverse ++ .ref b :: rest) (hb : sk b = ci) (hm : As.length = m) (hlev : lev + 1 ≤ n) (hW : (rest.map fun v => v.category).sum ≤ 8) (hq : pc + 3 = q) (k : ∀ h1 r, Xz κ (T h1 r) q ls (.ref r :: rest) h1) : Xz κ (bnd oc T) pc ls stk h := by
  subst hst
  exact x_ran eR (T := fun u => T u.1 u.2) (rest := rest) C hq (fun out e => bnd_inv e) (fun u hu H locs arr hP hs => ⟨_, run_v C V hlev (M u hu) hb hm hW d hP hs⟩) (fun u => k u.1 u.2)
theorem x_csR (q : Nat) (As rest : List Value) (C : Gd κ cc own n) {idx : Nat} {y : MethodName} {bytes : ByteArray} {nL m : Nat} (lev : Nat) {ret : Option FieldType} {stk : List Value} {oc : Option (Hp × Nat)} {T : Hp → Nat → Option Out} (d : decode cc pc = .ok (.invokestatic idx, 3)) (V : CS own idx y bytes nL ret m) (M : ∀ u, oc = some u → Ct y bytes nL ret lev As h (eR u)) (hst : stk = As.reverse ++ rest) (hm : As.length = m) (hlev : lev + 1 ≤ n) (hW : (rest.map fun v => v.category).sum ≤ 8) (hq : pc + 3 = q) (k : ∀ h1 r, Xz κ (T h1 r) q ls (.ref r :: rest) h1) : Xz κ (bnd oc T) pc ls stk h := by
  subst hst
  exact x_ran eR (T := fun u => T u.1 u.2) (rest := rest) C hq (fun out e => bnd_inv e) (fun u hu H locs arr hP hs => ⟨_, run_s C V hlev (M u hu) hm hW d hP hs⟩) (fun u => k u.1 u.2)
theorem x_cvV (q : Nat) (As rest : List Value) (C : Gd κ cc own n) {idx ci : Nat} {y : MethodName} {bytes : ByteArray} {nL m b : Nat} (lev : Nat) {ret : Option FieldType} {stk : List Value} {oc : Option (Hp)} {T : Hp → Option Out} (d : decode cc pc = .ok (.invokevirtual idx, 3)) (V : CV own idx ci y bytes nL ret m) (M : ∀ u, oc = some u → Ct y bytes nL ret lev (.ref b :: As) h (eV u)) (hst : stk = As.reverse ++ .ref b :: rest) (hb : sk b = ci) (hm : As.length = m) (hlev : lev + 1 ≤ n) (hW : (rest.map fun v => v.category).sum ≤ 8) (hq : pc + 3 = q) (k : ∀ h1, Xz κ (T h1) q ls rest h1) : Xz κ (bdv oc T) pc ls stk h := by
  subst hst
  exact x_ran eV (T := T) (rest := rest) C hq (fun out e => bdv_inv e) (fun u hu H locs arr hP hs => ⟨_, run_v C V hlev (M u hu) hb hm hW d hP hs⟩) (fun u => k u)
theorem x_csV (q : Nat) (As rest : List Value) (C : Gd κ cc own n) {idx : Nat} {y : MethodName} {bytes : ByteArray} {nL m : Nat} (lev : Nat) {ret : Option FieldType} {stk : List Value} {oc : Option (Hp)} {T : Hp → Option Out} (d : decode cc pc = .ok (.invokestatic idx, 3)) (V : CS own idx y bytes nL ret m) (M : ∀ u, oc = some u → Ct y bytes nL ret lev As h (eV u)) (hst : stk = As.reverse ++ rest) (hm : As.length = m) (hlev : lev + 1 ≤ n) (hW : (rest.map fun v => v.category).sum ≤ 8) (hq : pc + 3 = q) (k : ∀ h1, Xz κ (T h1) q ls rest h1) : Xz κ (bdv oc T) pc ls stk h := by
  subst hst
  exact x_ran eV (T := T) (rest := rest) C hq (fun out e => bdv_inv e) (fun u hu H locs arr hP hs => ⟨_, run_s C V hlev (M u hu) hm hW d hP hs⟩) (fun u => k u)
theorem x_cvi (q : Nat) (As rest : List Value) (C : Gd κ cc own n) {idx ci : Nat} {y : MethodName} {bytes : ByteArray} {nL m b : Nat} (lev : Nat) {ret : Option FieldType} {stk : List Value} {oc : Option (Int32)} {T : Int32 → Option Out} (d : decode cc pc = .ok (.invokevirtual idx, 3)) (V : CV own idx ci y bytes nL ret m) (M : ∀ u, oc = some u → Ct y bytes nL ret lev (.ref b :: As) h ((rI h) u)) (hst : stk = As.reverse ++ .ref b :: rest) (hb : sk b = ci) (hm : As.length = m) (hlev : lev + 1 ≤ n) (hW : (rest.map fun v => v.category).sum ≤ 8) (hq : pc + 3 = q) (k : ∀ r, Xz κ (T r) q ls (.int r :: rest) h) : Xz κ (bdr oc T) pc ls stk h := by
  subst hst
  exact x_ran (rI h) (T := T) (rest := rest) C hq (fun out e => bdr_inv e) (fun u hu H locs arr hP hs => ⟨_, run_v C V hlev (M u hu) hb hm hW d hP hs⟩) (fun u => k u)
theorem x_csi (q : Nat) (As rest : List Value) (C : Gd κ cc own n) {idx : Nat} {y : MethodName} {bytes : ByteArray} {nL m : Nat} (lev : Nat) {ret : Option FieldType} {stk : List Value} {oc : Option (Int32)} {T : Int32 → Option Out} (d : decode cc pc = .ok (.invokestatic idx, 3)) (V : CS own idx y bytes nL ret m) (M : ∀ u, oc = some u → Ct y bytes nL ret lev As h ((rI h) u)) (hst : stk = As.reverse ++ rest) (hm : As.length = m) (hlev : lev + 1 ≤ n) (hW : (rest.map fun v => v.category).sum ≤ 8) (hq : pc + 3 = q) (k : ∀ r, Xz κ (T r) q ls (.int r :: rest) h) : Xz κ (bdr oc T) pc ls stk h := by
  subst hst
  exact x_ran (rI h) (T := T) (rest := rest) C hq (fun out e => bdr_inv e) (fun u hu H locs arr hP hs => ⟨_, run_s C V hlev (M u hu) hm hW d hP hs⟩) (fun u => k u)
theorem x_cvl (q : Nat) (As rest : List Value) (C : Gd κ cc own n) {idx ci : Nat} {y : MethodName} {bytes : ByteArray} {nL m b : Nat} (lev : Nat) {ret : Option FieldType} {stk : List Value} {oc : Option (Int64)} {T : Int64 → Option Out} (d : decode cc pc = .ok (.invokevirtual idx, 3)) (V : CV own idx ci y bytes nL ret m) (M : ∀ u, oc = some u → Ct y bytes nL ret lev (.ref b :: As) h ((rL h) u)) (hst : stk = As.reverse ++ .ref b :: rest) (hb : sk b = ci) (hm : As.length = m) (hlev : lev + 1 ≤ n) (hW : (rest.map fun v => v.category).sum ≤ 8) (hq : pc + 3 = q) (k : ∀ r, Xz κ (T r) q ls (.long r :: rest) h) : Xz κ (bdr oc T) pc ls stk h := by
  subst hst
  exact x_ran (rL h) (T := T) (rest := rest) C hq (fun out e => bdr_inv e) (fun u hu H locs arr hP hs => ⟨_, run_v C V hlev (M u hu) hb hm hW d hP hs⟩) (fun u => k u)
theorem x_csl (q : Nat) (As rest : List Value) (C : Gd κ cc own n) {idx : Nat} {y : MethodName} {bytes : ByteArray} {nL m : Nat} (lev : Nat) {ret : Option FieldType} {stk : List Value} {oc : Option (Int64)} {T : Int64 → Option Out} (d : decode cc pc = .ok (.invokestatic idx, 3)) (V : CS own idx y bytes nL ret m) (M : ∀ u, oc = some u → Ct y bytes nL ret lev As h ((rL h) u)) (hst : stk = As.reverse ++ rest) (hm : As.length = m) (hlev : lev + 1 ≤ n) (hW : (rest.map fun v => v.category).sum ≤ 8) (hq : pc + 3 = q) (k : ∀ r, Xz κ (T r) q ls (.long r :: rest) h) : Xz κ (bdr oc T) pc ls stk h := by
  subst hst
  exact x_ran (rL h) (T := T) (rest := rest) C hq (fun out e => bdr_inv e) (fun u hu H locs arr hP hs => ⟨_, run_s C V hlev (M u hu) hm hW d hP hs⟩) (fun u => k u)
theorem x_cvr (q : Nat) (As rest : List Value) (C : Gd κ cc own n) {idx ci : Nat} {y : MethodName} {bytes : ByteArray} {nL m b : Nat} (lev : Nat) {ret : Option FieldType} {stk : List Value} {oc : Option (Nat)} {T : Nat → Option Out} (d : decode cc pc = .ok (.invokevirtual idx, 3)) (V : CV own idx ci y bytes nL ret m) (M : ∀ u, oc = some u → Ct y bytes nL ret lev (.ref b :: As) h ((rR h) u)) (hst : stk = As.reverse ++ .ref b :: rest) (hb : sk b = ci) (hm : As.length = m) (hlev : lev + 1 ≤ n) (hW : (rest.map fun v => v.category).sum ≤ 8) (hq : pc + 3 = q) (k : ∀ r, Xz κ (T r) q ls (.ref r :: rest) h) : Xz κ (bdr oc T) pc ls stk h := by
  subst hst
  exact x_ran (rR h) (T := T) (rest := rest) C hq (fun out e => bdr_inv e) (fun u hu H locs arr hP hs => ⟨_, run_v C V hlev (M u hu) hb hm hW d hP hs⟩) (fun u => k u)
theorem x_csr (q : Nat) (As rest : List Value) (C : Gd κ cc own n) {idx : Nat} {y : MethodName} {bytes : ByteArray} {nL m : Nat} (lev : Nat) {ret : Option FieldType} {stk : List Value} {oc : Option (Nat)} {T : Nat → Option Out} (d : decode cc pc = .ok (.invokestatic idx, 3)) (V : CS own idx y bytes nL ret m) (M : ∀ u, oc = some u → Ct y bytes nL ret lev As h ((rR h) u)) (hst : stk = As.reverse ++ rest) (hm : As.length = m) (hlev : lev + 1 ≤ n) (hW : (rest.map fun v => v.category).sum ≤ 8) (hq : pc + 3 = q) (k : ∀ r, Xz κ (T r) q ls (.ref r :: rest) h) : Xz κ (bdr oc T) pc ls stk h := by
  subst hst
  exact x_ran (rR h) (T := T) (rest := rest) C hq (fun out e => bdr_inv e) (fun u hu H locs arr hP hs => ⟨_, run_s C V hlev (M u hu) hm hW d hP hs⟩) (fun u => k u)
end CALLS
end
section
theorem sk_0 : sk 0 = 7 := by decide +kernel
theorem sk_1 : sk 1 = 4 := by decide +kernel
theorem sk_2 : sk 2 = 9 := by decide +kernel
theorem sk_3 : sk 3 = 4 := by decide +kernel
theorem sk_4 : sk 4 = 9 := by decide +kernel
theorem sk_5 : sk 5 = 5 := by decide +kernel
theorem sk_6 : sk 6 = 9 := by decide +kernel
theorem sk_7 : sk 7 = 9 := by decide +kernel
theorem sk_8 : sk 8 = 9 := by decide +kernel
theorem sk_9 : sk 9 = 9 := by decide +kernel
theorem sk_10 : sk 10 = 9 := by decide +kernel
theorem sk_11 : sk 11 = 9 := by decide +kernel
theorem sk_12 : sk 12 = 9 := by decide +kernel
theorem sk_13 : sk 13 = 3 := by decide +kernel
theorem sk_14 : sk 14 = 9 := by decide +kernel
theorem sk_15 : sk 15 = 9 := by decide +kernel
theorem sk_16 : sk 16 = 9 := by decide +kernel
theorem sk_17 : sk 17 = 2 := by decide +kernel
theorem sk_18 : sk 18 = 6 := by decide +kernel
theorem sk_19 : sk 19 = 9 := by decide +kernel
theorem sk_20 : sk 20 = 9 := by decide +kernel
theorem sk_21 : sk 21 = 9 := by decide +kernel
theorem sk_22 : sk 22 = 0 := by decide +kernel
theorem sk_23 : sk 23 = 9 := by decide +kernel
theorem sk_24 : sk 24 = 9 := by decide +kernel
theorem sk_25 : sk 25 = 9 := by decide +kernel
theorem sk_26 : sk 26 = 9 := by decide +kernel
theorem sk_27 : sk 27 = 9 := by decide +kernel
theorem sk_28 : sk 28 = 9 := by decide +kernel
theorem sk_29 : sk 29 = 9 := by decide +kernel
theorem sk_30 : sk 30 = 9 := by decide +kernel
theorem sk_31 : sk 31 = 9 := by decide +kernel
theorem sk_32 : sk 32 = 9 := by decide +kernel
theorem sk_33 : sk 33 = 9 := by decide +kernel
theorem sk_34 : sk 34 = 9 := by decide +kernel
theorem sk_35 : sk 35 = 9 := by decide +kernel
theorem sk_36 : sk 36 = 2 := by decide +kernel
theorem sk_37 : sk 37 = 6 := by decide +kernel
theorem sk_38 : sk 38 = 9 := by decide +kernel
theorem sk_39 : sk 39 = 9 := by decide +kernel
theorem sk_40 : sk 40 = 9 := by decide +kernel
theorem sk_41 : sk 41 = 0 := by decide +kernel
theorem sk_42 : sk 42 = 9 := by decide +kernel
theorem sk_43 : sk 43 = 9 := by decide +kernel
theorem sk_44 : sk 44 = 9 := by decide +kernel
theorem sk_45 : sk 45 = 9 := by decide +kernel
theorem sk_46 : sk 46 = 9 := by decide +kernel
theorem sk_47 : sk 47 = 9 := by decide +kernel
theorem sk_48 : sk 48 = 9 := by decide +kernel
theorem sk_49 : sk 49 = 9 := by decide +kernel
theorem sk_50 : sk 50 = 9 := by decide +kernel
theorem sk_51 : sk 51 = 9 := by decide +kernel
theorem sk_52 : sk 52 = 9 := by decide +kernel
theorem sk_53 : sk 53 = 9 := by decide +kernel
theorem sk_54 : sk 54 = 9 := by decide +kernel
theorem sk_55 : sk 55 = 9 := by decide +kernel
theorem sk_56 : sk 56 = 9 := by decide +kernel
theorem sk_57 : sk 57 = 10 := by decide +kernel
theorem sk_58 : sk 58 = 9 := by decide +kernel
theorem sk_59 : sk 59 = 11 := by decide +kernel
theorem sk_60 : sk 60 = 1 := by decide +kernel
theorem sk_61 : sk 61 = 9 := by decide +kernel
theorem sk_62 : sk 62 = 1 := by decide +kernel
theorem sk_63 : sk 63 = 9 := by decide +kernel
theorem sk_64 : sk 64 = 1 := by decide +kernel
theorem sk_65 : sk 65 = 9 := by decide +kernel
theorem sk_66 : sk 66 = 1 := by decide +kernel
theorem sk_67 : sk 67 = 9 := by decide +kernel
theorem sk_68 : sk 68 = 8 := by decide +kernel
theorem sk_69 : sk 69 = 9 := by decide +kernel
theorem sk_70 : sk 70 = 9 := by decide +kernel
theorem sk_71 : sk 71 = 9 := by decide +kernel
theorem sk_72 : sk 72 = 9 := by decide +kernel
theorem sk_73 : sk 73 = 9 := by decide +kernel
theorem sk_74 : sk 74 = 9 := by decide +kernel
theorem sk_75 : sk 75 = 9 := by decide +kernel
theorem sk_76 : sk 76 = 9 := by decide +kernel
theorem sk_77 : sk 77 = 9 := by decide +kernel
theorem sk_78 : sk 78 = 9 := by decide +kernel
theorem sk_79 : sk 79 = 9 := by decide +kernel
theorem sk_80 : sk 80 = 9 := by decide +kernel
theorem sk_81 : sk 81 = 9 := by decide +kernel
theorem sk_82 : sk 82 = 9 := by decide +kernel
theorem sk_83 : sk 83 = 9 := by decide +kernel
theorem sk_84 : sk 84 = 9 := by decide +kernel
theorem sk_85 : sk 85 = 9 := by decide +kernel
theorem sk_86 : sk 86 = 9 := by decide +kernel
theorem sk_87 : sk 87 = 9 := by decide +kernel
theorem sk_88 : sk 88 = 9 := by decide +kernel
theorem sk_89 : sk 89 = 9 := by decide +kernel
theorem sk_90 : sk 90 = 9 := by decide +kernel
theorem sk_91 : sk 91 = 9 := by decide +kernel
theorem sk_92 : sk 92 = 10 := by decide +kernel
theorem sl_2 : sl 2 = 23 := by decide +kernel
theorem sl_4 : sl 4 = 24 := by decide +kernel
theorem sl_6 : sl 6 = 6 := by decide +kernel
theorem sl_7 : sl 7 = 6 := by decide +kernel
theorem sl_8 : sl 8 = 6 := by decide +kernel
theorem sl_9 : sl 9 = 24 := by decide +kernel
theorem sl_10 : sl 10 = 8 := by decide +kernel
theorem sl_11 : sl 11 = 8 := by decide +kernel
theorem sl_12 : sl 12 = 8 := by decide +kernel
theorem sl_14 : sl 14 = 8 := by decide +kernel
theorem sl_15 : sl 15 = 8 := by decide +kernel
theorem sl_16 : sl 16 = 8 := by decide +kernel
theorem sl_19 : sl 19 = 24 := by decide +kernel
theorem sl_20 : sl 20 = 24 := by decide +kernel
theorem sl_21 : sl 21 = 24 := by decide +kernel
theorem sl_23 : sl 23 = 144 := by decide +kernel
theorem sl_24 : sl 24 = 144 := by decide +kernel
theorem sl_25 : sl 25 = 144 := by decide +kernel
theorem sl_26 : sl 26 = 24 := by decide +kernel
theorem sl_27 : sl 27 = 6 := by decide +kernel
theorem sl_28 : sl 28 = 6 := by decide +kernel
theorem sl_29 : sl 29 = 6 := by decide +kernel
theorem sl_30 : sl 30 = 6 := by decide +kernel
theorem sl_31 : sl 31 = 6 := by decide +kernel
theorem sl_32 : sl 32 = 6 := by decide +kernel
theorem sl_33 : sl 33 = 6 := by decide +kernel
theorem sl_34 : sl 34 = 6 := by decide +kernel
theorem sl_35 : sl 35 = 6 := by decide +kernel
theorem sl_38 : sl 38 = 24 := by decide +kernel
theorem sl_39 : sl 39 = 24 := by decide +kernel
theorem sl_40 : sl 40 = 24 := by decide +kernel
theorem sl_42 : sl 42 = 144 := by decide +kernel
theorem sl_43 : sl 43 = 144 := by decide +kernel
theorem sl_44 : sl 44 = 144 := by decide +kernel
theorem sl_45 : sl 45 = 24 := by decide +kernel
theorem sl_46 : sl 46 = 6 := by decide +kernel
theorem sl_47 : sl 47 = 6 := by decide +kernel
theorem sl_48 : sl 48 = 6 := by decide +kernel
theorem sl_49 : sl 49 = 6 := by decide +kernel
theorem sl_50 : sl 50 = 6 := by decide +kernel
theorem sl_51 : sl 51 = 6 := by decide +kernel
theorem sl_52 : sl 52 = 6 := by decide +kernel
theorem sl_53 : sl 53 = 6 := by decide +kernel
theorem sl_54 : sl 54 = 6 := by decide +kernel
theorem sl_55 : sl 55 = 24 := by decide +kernel
theorem sl_56 : sl 56 = 256 := by decide +kernel
theorem sl_57 : sl 57 = 240 := by decide +kernel
theorem sl_58 : sl 58 = 2 := by decide +kernel
theorem sl_59 : sl 59 = 4 := by decide +kernel
theorem sl_61 : sl 61 = 60 := by decide +kernel
theorem sl_63 : sl 63 = 60 := by decide +kernel
theorem sl_65 : sl 65 = 60 := by decide +kernel
theorem sl_67 : sl 67 = 60 := by decide +kernel
theorem sl_69 : sl 69 = 4 := by decide +kernel
theorem sl_70 : sl 70 = 4 := by decide +kernel
theorem sl_71 : sl 71 = 240 := by decide +kernel
theorem sl_72 : sl 72 = 60 := by decide +kernel
theorem sl_73 : sl 73 = 48 := by decide +kernel
theorem sl_74 : sl 74 = 2 := by decide +kernel
theorem sl_75 : sl 75 = 18 := by decide +kernel
theorem sl_76 : sl 76 = 24 := by decide +kernel
theorem sl_77 : sl 77 = 3 := by decide +kernel
theorem sl_78 : sl 78 = 24 := by decide +kernel
theorem sl_79 : sl 79 = 6 := by decide +kernel
theorem sl_80 : sl 80 = 6 := by decide +kernel
theorem sl_81 : sl 81 = 6 := by decide +kernel
theorem sl_82 : sl 82 = 6 := by decide +kernel
theorem sl_83 : sl 83 = 6 := by decide +kernel
theorem sl_84 : sl 84 = 6 := by decide +kernel
theorem sl_85 : sl 85 = 6 := by decide +kernel
theorem sl_86 : sl 86 = 6 := by decide +kernel
theorem sl_87 : sl 87 = 144 := by decide +kernel
theorem sl_88 : sl 88 = 144 := by decide +kernel
theorem sl_89 : sl 89 = 144 := by decide +kernel
theorem sl_90 : sl 90 = 24 := by decide +kernel
theorem sl_91 : sl 91 = 24 := by decide +kernel
theorem sl_92 : sl 92 = 240 := by decide +kernel
theorem sr_0_0 : sr 0 0 = 1 := by decide +kernel
theorem sr_0_1 : sr 0 1 = 3 := by decide +kernel
theorem sr_0_2 : sr 0 2 = 5 := by decide +kernel
theorem sr_0_3 : sr 0 3 = 13 := by decide +kernel
theorem sr_0_4 : sr 0 4 = 17 := by decide +kernel
theorem sr_0_5 : sr 0 5 = 36 := by decide +kernel
theorem sr_0_6 : sr 0 6 = 55 := by decide +kernel
theorem sr_0_7 : sr 0 7 = 56 := by decide +kernel
theorem sr_0_8 : sr 0 8 = 57 := by decide +kernel
theorem sr_0_9 : sr 0 9 = 58 := by decide +kernel
theorem sr_0_10 : sr 0 10 = 59 := by decide +kernel
theorem sr_1_0 : sr 1 0 = 2 := by decide +kernel
theorem sr_3_0 : sr 3 0 = 4 := by decide +kernel
theorem sr_5_0 : sr 5 0 = 6 := by decide +kernel
theorem sr_5_1 : sr 5 1 = 7 := by decide +kernel
theorem sr_5_2 : sr 5 2 = 8 := by decide +kernel
theorem sr_5_3 : sr 5 3 = 9 := by decide +kernel
theorem sr_5_4 : sr 5 4 = 10 := by decide +kernel
theorem sr_5_5 : sr 5 5 = 11 := by decide +kernel
theorem sr_5_6 : sr 5 6 = 12 := by decide +kernel
theorem sr_13_0 : sr 13 0 = 14 := by decide +kernel
theorem sr_13_1 : sr 13 1 = 15 := by decide +kernel
theorem sr_13_2 : sr 13 2 = 16 := by decide +kernel
theorem sr_17_0 : sr 17 0 = 18 := by decide +kernel
theorem sr_17_1 : sr 17 1 = 22 := by decide +kernel
theorem sr_17_2 : sr 17 2 = 27 := by decide +kernel
theorem sr_17_3 : sr 17 3 = 28 := by decide +kernel
theorem sr_17_4 : sr 17 4 = 29 := by decide +kernel
theorem sr_17_5 : sr 17 5 = 30 := by decide +kernel
theorem sr_17_6 : sr 17 6 = 31 := by decide +kernel
theorem sr_17_7 : sr 17 7 = 32 := by decide +kernel
theorem sr_17_8 : sr 17 8 = 33 := by decide +kernel
theorem sr_17_9 : sr 17 9 = 34 := by decide +kernel
theorem sr_17_10 : sr 17 10 = 35 := by decide +kernel
theorem sr_18_0 : sr 18 0 = 19 := by decide +kernel
theorem sr_18_1 : sr 18 1 = 20 := by decide +kernel
theorem sr_18_2 : sr 18 2 = 21 := by decide +kernel
theorem sr_22_0 : sr 22 0 = 23 := by decide +kernel
theorem sr_22_1 : sr 22 1 = 24 := by decide +kernel
theorem sr_22_2 : sr 22 2 = 25 := by decide +kernel
theorem sr_22_3 : sr 22 3 = 26 := by decide +kernel
theorem sr_36_0 : sr 36 0 = 37 := by decide +kernel
theorem sr_36_1 : sr 36 1 = 41 := by decide +kernel
theorem sr_36_2 : sr 36 2 = 46 := by decide +kernel
theorem sr_36_3 : sr 36 3 = 47 := by decide +kernel
theorem sr_36_4 : sr 36 4 = 48 := by decide +kernel
theorem sr_36_5 : sr 36 5 = 49 := by decide +kernel
theorem sr_36_6 : sr 36 6 = 50 := by decide +kernel
theorem sr_36_7 : sr 36 7 = 51 := by decide +kernel
theorem sr_36_8 : sr 36 8 = 52 := by decide +kernel
theorem sr_36_9 : sr 36 9 = 53 := by decide +kernel
theorem sr_36_10 : sr 36 10 = 54 := by decide +kernel
theorem sr_37_0 : sr 37 0 = 38 := by decide +kernel
theorem sr_37_1 : sr 37 1 = 39 := by decide +kernel
theorem sr_37_2 : sr 37 2 = 40 := by decide +kernel
theorem sr_41_0 : sr 41 0 = 42 := by decide +kernel
theorem sr_41_1 : sr 41 1 = 43 := by decide +kernel
theorem sr_41_2 : sr 41 2 = 44 := by decide +kernel
theorem sr_41_3 : sr 41 3 = 45 := by decide +kernel
theorem sr_60_0 : sr 60 0 = 61 := by decide +kernel
theorem sr_62_0 : sr 62 0 = 63 := by decide +kernel
theorem sr_64_0 : sr 64 0 = 65 := by decide +kernel
theorem sr_66_0 : sr 66 0 = 67 := by decide +kernel
theorem sr_68_0 : sr 68 0 = 69 := by decide +kernel
theorem sr_68_1 : sr 68 1 = 70 := by decide +kernel
theorem sr_68_2 : sr 68 2 = 71 := by decide +kernel
theorem sr_68_3 : sr 68 3 = 72 := by decide +kernel
theorem sr_68_5 : sr 68 5 = 73 := by decide +kernel
theorem sr_68_6 : sr 68 6 = 74 := by decide +kernel
theorem sr_68_8 : sr 68 8 = 75 := by decide +kernel
theorem sr_68_10 : sr 68 10 = 76 := by decide +kernel
theorem sr_68_11 : sr 68 11 = 77 := by decide +kernel
theorem sr_68_13 : sr 68 13 = 78 := by decide +kernel
theorem sr_68_15 : sr 68 15 = 79 := by decide +kernel
theorem sr_68_16 : sr 68 16 = 80 := by decide +kernel
theorem sr_68_17 : sr 68 17 = 81 := by decide +kernel
theorem sr_68_18 : sr 68 18 = 82 := by decide +kernel
theorem sr_68_19 : sr 68 19 = 83 := by decide +kernel
theorem sr_68_20 : sr 68 20 = 84 := by decide +kernel
theorem sr_68_21 : sr 68 21 = 85 := by decide +kernel
theorem sr_68_22 : sr 68 22 = 86 := by decide +kernel
theorem sr_68_23 : sr 68 23 = 87 := by decide +kernel
theorem sr_68_24 : sr 68 24 = 88 := by decide +kernel
theorem sr_68_25 : sr 68 25 = 89 := by decide +kernel
theorem sr_68_26 : sr 68 26 = 90 := by decide +kernel
theorem sr_68_30 : sr 68 30 = 91 := by decide +kernel
theorem sr_68_31 : sr 68 31 = 92 := by decide +kernel
theorem sk_sh {i : Int32} (h : vp_in i 4) : sk (60 + 2 * i.toNatClampNeg) = 1 := (show ∀ z, z < 4 → sk (60 + 2 * z) = 1 by decide +kernel) _ (Nat.not_le.mp fun q => h (Or.inr q))
theorem of_0_0 {k : Nat} (h : sk k = 0) : sr k 0 = k + 1 := (show ∀ k, k < 93 → sk k = 0 → sr k 0 = k + 1 by decide +kernel) k (sk_lt h (by decide)) h
theorem ok_0_0 {k : Nat} (h : sk k = 0) : sk (k + 1) = 9 := (show ∀ k, k < 93 → sk k = 0 → sk (k + 1) = 9 by decide +kernel) k (sk_lt h (by decide)) h
theorem ol_0_0 {k : Nat} (h : sk k = 0) : sl (k + 1) = 144 := (show ∀ k, k < 93 → sk k = 0 → sl (k + 1) = 144 by decide +kernel) k (sk_lt h (by decide)) h
theorem of_0_1 {k : Nat} (h : sk k = 0) : sr k 1 = k + 2 := (show ∀ k, k < 93 → sk k = 0 → sr k 1 = k + 2 by decide +kernel) k (sk_lt h (by decide)) h
theorem ok_0_1 {k : Nat} (h : sk k = 0) : sk (k + 2) = 9 := (show ∀ k, k < 93 → sk k = 0 → sk (k + 2) = 9 by decide +kernel) k (sk_lt h (by decide)) h
theorem ol_0_1 {k : Nat} (h : sk k = 0) : sl (k + 2) = 144 := (show ∀ k, k < 93 → sk k = 0 → sl (k + 2) = 144 by decide +kernel) k (sk_lt h (by decide)) h
theorem of_0_2 {k : Nat} (h : sk k = 0) : sr k 2 = k + 3 := (show ∀ k, k < 93 → sk k = 0 → sr k 2 = k + 3 by decide +kernel) k (sk_lt h (by decide)) h
theorem ok_0_2 {k : Nat} (h : sk k = 0) : sk (k + 3) = 9 := (show ∀ k, k < 93 → sk k = 0 → sk (k + 3) = 9 by decide +kernel) k (sk_lt h (by decide)) h
theorem ol_0_2 {k : Nat} (h : sk k = 0) : sl (k + 3) = 144 := (show ∀ k, k < 93 → sk k = 0 → sl (k + 3) = 144 by decide +kernel) k (sk_lt h (by decide)) h
theorem of_0_3 {k : Nat} (h : sk k = 0) : sr k 3 = k + 4 := (show ∀ k, k < 93 → sk k = 0 → sr k 3 = k + 4 by decide +kernel) k (sk_lt h (by decide)) h
theorem ok_0_3 {k : Nat} (h : sk k = 0) : sk (k + 4) = 9 := (show ∀ k, k < 93 → sk k = 0 → sk (k + 4) = 9 by decide +kernel) k (sk_lt h (by decide)) h
theorem ol_0_3 {k : Nat} (h : sk k = 0) : sl (k + 4) = 24 := (show ∀ k, k < 93 → sk k = 0 → sl (k + 4) = 24 by decide +kernel) k (sk_lt h (by decide)) h
theorem of_1_0 {k : Nat} (h : sk k = 1) : sr k 0 = k + 1 := (show ∀ k, k < 93 → sk k = 1 → sr k 0 = k + 1 by decide +kernel) k (sk_lt h (by decide)) h
theorem ok_1_0 {k : Nat} (h : sk k = 1) : sk (k + 1) = 9 := (show ∀ k, k < 93 → sk k = 1 → sk (k + 1) = 9 by decide +kernel) k (sk_lt h (by decide)) h
theorem ol_1_0 {k : Nat} (h : sk k = 1) : sl (k + 1) = 60 := (show ∀ k, k < 93 → sk k = 1 → sl (k + 1) = 60 by decide +kernel) k (sk_lt h (by decide)) h
theorem of_2_0 {k : Nat} (h : sk k = 2) : sr k 0 = k + 1 := (show ∀ k, k < 93 → sk k = 2 → sr k 0 = k + 1 by decide +kernel) k (sk_lt h (by decide)) h
theorem ok_2_0 {k : Nat} (h : sk k = 2) : sk (k + 1) = 6 := (show ∀ k, k < 93 → sk k = 2 → sk (k + 1) = 6 by decide +kernel) k (sk_lt h (by decide)) h
theorem ol_2_0 {k : Nat} (h : sk k = 2) : sl (k + 1) = 0 := (show ∀ k, k < 93 → sk k = 2 → sl (k + 1) = 0 by decide +kernel) k (sk_lt h (by decide)) h
theorem of_2_1 {k : Nat} (h : sk k = 2) : sr k 1 = k + 5 := (show ∀ k, k < 93 → sk k = 2 → sr k 1 = k + 5 by decide +kernel) k (sk_lt h (by decide)) h
theorem ok_2_1 {k : Nat} (h : sk k = 2) : sk (k + 5) = 0 := (show ∀ k, k < 93 → sk k = 2 → sk (k + 5) = 0 by decide +kernel) k (sk_lt h (by decide)) h
theorem ol_2_1 {k : Nat} (h : sk k = 2) : sl (k + 5) = 0 := (show ∀ k, k < 93 → sk k = 2 → sl (k + 5) = 0 by decide +kernel) k (sk_lt h (by decide)) h
theorem of_2_10 {k : Nat} (h : sk k = 2) : sr k 10 = k + 18 := (show ∀ k, k < 93 → sk k = 2 → sr k 10 = k + 18 by decide +kernel) k (sk_lt h (by decide)) h
theorem ok_2_10 {k : Nat} (h : sk k = 2) : sk (k + 18) = 9 := (show ∀ k, k < 93 → sk k = 2 → sk (k + 18) = 9 by decide +kernel) k (sk_lt h (by decide)) h
theorem ol_2_10 {k : Nat} (h : sk k = 2) : sl (k + 18) = 6 := (show ∀ k, k < 93 → sk k = 2 → sl (k + 18) = 6 by decide +kernel) k (sk_lt h (by decide)) h
theorem of_2_2 {k : Nat} (h : sk k = 2) : sr k 2 = k + 10 := (show ∀ k, k < 93 → sk k = 2 → sr k 2 = k + 10 by decide +kernel) k (sk_lt h (by decide)) h
theorem ok_2_2 {k : Nat} (h : sk k = 2) : sk (k + 10) = 9 := (show ∀ k, k < 93 → sk k = 2 → sk (k + 10) = 9 by decide +kernel) k (sk_lt h (by decide)) h
theorem ol_2_2 {k : Nat} (h : sk k = 2) : sl (k + 10) = 6 := (show ∀ k, k < 93 → sk k = 2 → sl (k + 10) = 6 by decide +kernel) k (sk_lt h (by decide)) h
theorem of_2_3 {k : Nat} (h : sk k = 2) : sr k 3 = k + 11 := (show ∀ k, k < 93 → sk k = 2 → sr k 3 = k + 11 by decide +kernel) k (sk_lt h (by decide)) h
theorem ok_2_3 {k : Nat} (h : sk k = 2) : sk (k + 11) = 9 := (show ∀ k, k < 93 → sk k = 2 → sk (k + 11) = 9 by decide +kernel) k (sk_lt h (by decide)) h
theorem ol_2_3 {k : Nat} (h : sk k = 2) : sl (k + 11) = 6 := (show ∀ k, k < 93 → sk k = 2 → sl (k + 11) = 6 by decide +kernel) k (sk_lt h (by decide)) h
theorem of_2_4 {k : Nat} (h : sk k = 2) : sr k 4 = k + 12 := (show ∀ k, k < 93 → sk k = 2 → sr k 4 = k + 12 by decide +kernel) k (sk_lt h (by decide)) h
theorem ok_2_4 {k : Nat} (h : sk k = 2) : sk (k + 12) = 9 := (show ∀ k, k < 93 → sk k = 2 → sk (k + 12) = 9 by decide +kernel) k (sk_lt h (by decide)) h
theorem ol_2_4 {k : Nat} (h : sk k = 2) : sl (k + 12) = 6 := (show ∀ k, k < 93 → sk k = 2 → sl (k + 12) = 6 by decide +kernel) k (sk_lt h (by decide)) h
theorem of_2_5 {k : Nat} (h : sk k = 2) : sr k 5 = k + 13 := (show ∀ k, k < 93 → sk k = 2 → sr k 5 = k + 13 by decide +kernel) k (sk_lt h (by decide)) h
theorem ok_2_5 {k : Nat} (h : sk k = 2) : sk (k + 13) = 9 := (show ∀ k, k < 93 → sk k = 2 → sk (k + 13) = 9 by decide +kernel) k (sk_lt h (by decide)) h
theorem ol_2_5 {k : Nat} (h : sk k = 2) : sl (k + 13) = 6 := (show ∀ k, k < 93 → sk k = 2 → sl (k + 13) = 6 by decide +kernel) k (sk_lt h (by decide)) h
theorem of_2_6 {k : Nat} (h : sk k = 2) : sr k 6 = k + 14 := (show ∀ k, k < 93 → sk k = 2 → sr k 6 = k + 14 by decide +kernel) k (sk_lt h (by decide)) h
theorem ok_2_6 {k : Nat} (h : sk k = 2) : sk (k + 14) = 9 := (show ∀ k, k < 93 → sk k = 2 → sk (k + 14) = 9 by decide +kernel) k (sk_lt h (by decide)) h
theorem ol_2_6 {k : Nat} (h : sk k = 2) : sl (k + 14) = 6 := (show ∀ k, k < 93 → sk k = 2 → sl (k + 14) = 6 by decide +kernel) k (sk_lt h (by decide)) h
theorem of_2_7 {k : Nat} (h : sk k = 2) : sr k 7 = k + 15 := (show ∀ k, k < 93 → sk k = 2 → sr k 7 = k + 15 by decide +kernel) k (sk_lt h (by decide)) h
theorem ok_2_7 {k : Nat} (h : sk k = 2) : sk (k + 15) = 9 := (show ∀ k, k < 93 → sk k = 2 → sk (k + 15) = 9 by decide +kernel) k (sk_lt h (by decide)) h
theorem ol_2_7 {k : Nat} (h : sk k = 2) : sl (k + 15) = 6 := (show ∀ k, k < 93 → sk k = 2 → sl (k + 15) = 6 by decide +kernel) k (sk_lt h (by decide)) h
theorem of_2_8 {k : Nat} (h : sk k = 2) : sr k 8 = k + 16 := (show ∀ k, k < 93 → sk k = 2 → sr k 8 = k + 16 by decide +kernel) k (sk_lt h (by decide)) h
theorem ok_2_8 {k : Nat} (h : sk k = 2) : sk (k + 16) = 9 := (show ∀ k, k < 93 → sk k = 2 → sk (k + 16) = 9 by decide +kernel) k (sk_lt h (by decide)) h
theorem ol_2_8 {k : Nat} (h : sk k = 2) : sl (k + 16) = 6 := (show ∀ k, k < 93 → sk k = 2 → sl (k + 16) = 6 by decide +kernel) k (sk_lt h (by decide)) h
theorem of_2_9 {k : Nat} (h : sk k = 2) : sr k 9 = k + 17 := (show ∀ k, k < 93 → sk k = 2 → sr k 9 = k + 17 by decide +kernel) k (sk_lt h (by decide)) h
theorem ok_2_9 {k : Nat} (h : sk k = 2) : sk (k + 17) = 9 := (show ∀ k, k < 93 → sk k = 2 → sk (k + 17) = 9 by decide +kernel) k (sk_lt h (by decide)) h
theorem ol_2_9 {k : Nat} (h : sk k = 2) : sl (k + 17) = 6 := (show ∀ k, k < 93 → sk k = 2 → sl (k + 17) = 6 by decide +kernel) k (sk_lt h (by decide)) h
theorem of_4_0 {k : Nat} (h : sk k = 4) : sr k 0 = k + 1 := (show ∀ k, k < 93 → sk k = 4 → sr k 0 = k + 1 by decide +kernel) k (sk_lt h (by decide)) h
theorem ok_4_0 {k : Nat} (h : sk k = 4) : sk (k + 1) = 9 := (show ∀ k, k < 93 → sk k = 4 → sk (k + 1) = 9 by decide +kernel) k (sk_lt h (by decide)) h
theorem of_6_0 {k : Nat} (h : sk k = 6) : sr k 0 = k + 1 := (show ∀ k, k < 93 → sk k = 6 → sr k 0 = k + 1 by decide +kernel) k (sk_lt h (by decide)) h
theorem ok_6_0 {k : Nat} (h : sk k = 6) : sk (k + 1) = 9 := (show ∀ k, k < 93 → sk k = 6 → sk (k + 1) = 9 by decide +kernel) k (sk_lt h (by decide)) h
theorem ol_6_0 {k : Nat} (h : sk k = 6) : sl (k + 1) = 24 := (show ∀ k, k < 93 → sk k = 6 → sl (k + 1) = 24 by decide +kernel) k (sk_lt h (by decide)) h
theorem of_6_1 {k : Nat} (h : sk k = 6) : sr k 1 = k + 2 := (show ∀ k, k < 93 → sk k = 6 → sr k 1 = k + 2 by decide +kernel) k (sk_lt h (by decide)) h
theorem ok_6_1 {k : Nat} (h : sk k = 6) : sk (k + 2) = 9 := (show ∀ k, k < 93 → sk k = 6 → sk (k + 2) = 9 by decide +kernel) k (sk_lt h (by decide)) h
theorem ol_6_1 {k : Nat} (h : sk k = 6) : sl (k + 2) = 24 := (show ∀ k, k < 93 → sk k = 6 → sl (k + 2) = 24 by decide +kernel) k (sk_lt h (by decide)) h
theorem of_6_2 {k : Nat} (h : sk k = 6) : sr k 2 = k + 3 := (show ∀ k, k < 93 → sk k = 6 → sr k 2 = k + 3 by decide +kernel) k (sk_lt h (by decide)) h
theorem ok_6_2 {k : Nat} (h : sk k = 6) : sk (k + 3) = 9 := (show ∀ k, k < 93 → sk k = 6 → sk (k + 3) = 9 by decide +kernel) k (sk_lt h (by decide)) h
theorem ol_6_2 {k : Nat} (h : sk k = 6) : sl (k + 3) = 24 := (show ∀ k, k < 93 → sk k = 6 → sl (k + 3) = 24 by decide +kernel) k (sk_lt h (by decide)) h
theorem ci_m1 : Int32.ofInt (-1) = (-1 : Int32) := by decide
theorem ci_0 : Int32.ofInt (0) = (0 : Int32) := by decide
theorem ci_1 : Int32.ofInt (1) = (1 : Int32) := by decide
theorem ci_2 : Int32.ofInt (2) = (2 : Int32) := by decide
theorem ci_3 : Int32.ofInt (3) = (3 : Int32) := by decide
theorem ci_4 : Int32.ofInt (4) = (4 : Int32) := by decide
theorem ci_5 : Int32.ofInt (5) = (5 : Int32) := by decide
theorem cb_m10 : (Int8.ofInt (-10)).toInt32 = (-10 : Int32) := by decide
theorem cb_m9 : (Int8.ofInt (-9)).toInt32 = (-9 : Int32) := by decide
theorem cb_m4 : (Int8.ofInt (-4)).toInt32 = (-4 : Int32) := by decide
theorem cb_m3 : (Int8.ofInt (-3)).toInt32 = (-3 : Int32) := by decide
theorem cb_m2 : (Int8.ofInt (-2)).toInt32 = (-2 : Int32) := by decide
theorem cb_6 : (Int8.ofInt (6)).toInt32 = (6 : Int32) := by decide
theorem cb_7 : (Int8.ofInt (7)).toInt32 = (7 : Int32) := by decide
theorem cb_8 : (Int8.ofInt (8)).toInt32 = (8 : Int32) := by decide
theorem cb_9 : (Int8.ofInt (9)).toInt32 = (9 : Int32) := by decide
theorem cb_10 : (Int8.ofInt (10)).toInt32 = (10 : Int32) := by decide
theorem cb_11 : (Int8.ofInt (11)).toInt32 = (11 : Int32) := by decide
theorem cb_13 : (Int8.ofInt (13)).toInt32 = (13 : Int32) := by decide
theorem cb_16 : (Int8.ofInt (16)).toInt32 = (16 : Int32) := by decide
theorem cb_18 : (Int8.ofInt (18)).toInt32 = (18 : Int32) := by decide
theorem cb_20 : (Int8.ofInt (20)).toInt32 = (20 : Int32) := by decide
theorem cb_23 : (Int8.ofInt (23)).toInt32 = (23 : Int32) := by decide
theorem cb_24 : (Int8.ofInt (24)).toInt32 = (24 : Int32) := by decide
theorem cb_32 : (Int8.ofInt (32)).toInt32 = (32 : Int32) := by decide
theorem cb_40 : (Int8.ofInt (40)).toInt32 = (40 : Int32) := by decide
theorem cb_41 : (Int8.ofInt (41)).toInt32 = (41 : Int32) := by decide
theorem cb_48 : (Int8.ofInt (48)).toInt32 = (48 : Int32) := by decide
theorem cb_57 : (Int8.ofInt (57)).toInt32 = (57 : Int32) := by decide
theorem cb_59 : (Int8.ofInt (59)).toInt32 = (59 : Int32) := by decide
theorem cb_60 : (Int8.ofInt (60)).toInt32 = (60 : Int32) := by decide
theorem cb_97 : (Int8.ofInt (97)).toInt32 = (97 : Int32) := by decide
theorem cb_98 : (Int8.ofInt (98)).toInt32 = (98 : Int32) := by decide
theorem cb_99 : (Int8.ofInt (99)).toInt32 = (99 : Int32) := by decide
theorem cb_102 : (Int8.ofInt (102)).toInt32 = (102 : Int32) := by decide
theorem cb_108 : (Int8.ofInt (108)).toInt32 = (108 : Int32) := by decide
theorem cb_111 : (Int8.ofInt (111)).toInt32 = (111 : Int32) := by decide
theorem cb_114 : (Int8.ofInt (114)).toInt32 = (114 : Int32) := by decide
theorem cb_115 : (Int8.ofInt (115)).toInt32 = (115 : Int32) := by decide
theorem cb_119 : (Int8.ofInt (119)).toInt32 = (119 : Int32) := by decide
theorem cb_120 : (Int8.ofInt (120)).toInt32 = (120 : Int32) := by decide
theorem cs_255 : (Int16.ofInt (255)).toInt32 = (255 : Int32) := by decide
theorem cs_1000 : (Int16.ofInt (1000)).toInt32 = (1000 : Int32) := by decide
theorem cs_12345 : (Int16.ofInt (12345)).toInt32 = (12345 : Int32) := by decide
theorem cl_0 : Int64.ofNat (((0 : Fin 2)) : Nat) = (0 : Int64) := by decide
theorem cl_1 : Int64.ofNat (((1 : Fin 2)) : Nat) = (1 : Int64) := by decide
theorem nz_2 : ¬ (2 : Int32) = 0 := by decide
theorem nz_3 : ¬ (3 : Int32) = 0 := by decide
theorem nz_4 : ¬ (4 : Int32) = 0 := by decide
theorem nzl_2 : ¬ (2 : Int64) = 0 := by decide
theorem vi_0_2 : vp_in (0 : Int32) 2 := by unfold vp_in; decide
theorem vi_0_3 : vp_in (0 : Int32) 3 := by unfold vp_in; decide
theorem vi_1_2 : vp_in (1 : Int32) 2 := by unfold vp_in; decide
theorem vi_1_3 : vp_in (1 : Int32) 3 := by unfold vp_in; decide
theorem vi_2_3 : vp_in (2 : Int32) 3 := by unfold vp_in; decide
theorem vj_0 : (0 : Int32).toNatClampNeg = 0 := by decide
theorem vj_1 : (1 : Int32).toNatClampNeg = 1 := by decide
theorem vj_2 : (2 : Int32).toNatClampNeg = 2 := by decide
theorem kw_X7_188 : Cond.constant RX7 188 (-2147483648) ∈ tb2 := m2 (List.mem_of_getElem? (i := 584) (by decide +kernel)) (by decide +kernel)
theorem kw_X7_269 : Cond.constant RX7 269 (1103515245) ∈ tb2 := m2 (List.mem_of_getElem? (i := 730) (by decide +kernel)) (by decide +kernel)
theorem kw_X8_113 : Cond.constant RX8 113 (-2147483648) ∈ tb2 := m2 (List.mem_of_getElem? (i := 979) (by decide +kernel)) (by decide +kernel)
theorem kw_X8_305 : Cond.constant RX8 305 (1103515245) ∈ tb2 := m2 (List.mem_of_getElem? (i := 1291) (by decide +kernel)) (by decide +kernel)
theorem kw_X7_258 : Cond.constantLong RX7 258 (-9223372036854775806) ∈ tb2 := m2 (List.mem_of_getElem? (i := 712) (by decide +kernel)) (by decide +kernel)
theorem kw_X7_267 : Cond.constantLong RX7 267 (2) ∈ tb2 := m2 (List.mem_of_getElem? (i := 725) (by decide +kernel)) (by decide +kernel)
theorem kw_X7_317 : Cond.constantLong RX7 317 (17) ∈ tb2 := m2 (List.mem_of_getElem? (i := 792) (by decide +kernel)) (by decide +kernel)
theorem kw_X7_406 : Cond.constantLong RX7 406 (31) ∈ tb2 := m2 (List.mem_of_getElem? (i := 797) (by decide +kernel)) (by decide +kernel)
theorem kw_X8_83 : Cond.constantLong RX8 83 (-9223372036854775808) ∈ tb2 := m2 (List.mem_of_getElem? (i := 1277) (by decide +kernel)) (by decide +kernel)
theorem kw_X8_93 : Cond.constantLong RX8 93 (3) ∈ tb2 := m2 (List.mem_of_getElem? (i := 951) (by decide +kernel)) (by decide +kernel)
theorem kw_X8_99 : Cond.constantLong RX8 99 (2) ∈ tb2 := m2 (List.mem_of_getElem? (i := 955) (by decide +kernel)) (by decide +kernel)
theorem kw_X8_117 : Cond.constantLong RX8 117 (255) ∈ tb2 := m2 (List.mem_of_getElem? (i := 991) (by decide +kernel)) (by decide +kernel)
theorem kw_X8_119 : Cond.constantLong RX8 119 (97) ∈ tb2 := m2 (List.mem_of_getElem? (i := 1015) (by decide +kernel)) (by decide +kernel)
theorem kw_X8_121 : Cond.constantLong RX8 121 (120) ∈ tb2 := m2 (List.mem_of_getElem? (i := 1016) (by decide +kernel)) (by decide +kernel)
theorem kw_X8_123 : Cond.constantLong RX8 123 (48) ∈ tb2 := m2 (List.mem_of_getElem? (i := 1017) (by decide +kernel)) (by decide +kernel)
theorem kw_X8_125 : Cond.constantLong RX8 125 (57) ∈ tb2 := m2 (List.mem_of_getElem? (i := 1018) (by decide +kernel)) (by decide +kernel)
theorem kw_X8_149 : Cond.constantLong RX8 149 (23) ∈ tb2 := m2 (List.mem_of_getElem? (i := 1042) (by decide +kernel)) (by decide +kernel)
theorem kw_X8_157 : Cond.constantLong RX8 157 (5) ∈ tb2 := m2 (List.mem_of_getElem? (i := 1050) (by decide +kernel)) (by decide +kernel)
theorem kw_X8_159 : Cond.constantLong RX8 159 (40) ∈ tb2 := m2 (List.mem_of_getElem? (i := 1051) (by decide +kernel)) (by decide +kernel)
theorem kw_X8_161 : Cond.constantLong RX8 161 (9) ∈ tb2 := m2 (List.mem_of_getElem? (i := 1052) (by decide +kernel)) (by decide +kernel)
theorem kw_X8_163 : Cond.constantLong RX8 163 (20) ∈ tb2 := m2 (List.mem_of_getElem? (i := 1053) (by decide +kernel)) (by decide +kernel)
theorem kw_X8_256 : Cond.constantLong RX8 256 (-1) ∈ tb2 := m2 (List.mem_of_getElem? (i := 1200) (by decide +kernel)) (by decide +kernel)
theorem kw_X8_271 : Cond.constantLong RX8 271 (42) ∈ tb2 := m2 (List.mem_of_getElem? (i := 1245) (by decide +kernel)) (by decide +kernel)
theorem kw_X8_296 : Cond.constantLong RX8 296 (16) ∈ tb2 := m2 (List.mem_of_getElem? (i := 1266) (by decide +kernel)) (by decide +kernel)
theorem kw_X8_312 : Cond.constantLong RX8 312 (24) ∈ tb2 := m2 (List.mem_of_getElem? (i := 1282) (by decide +kernel)) (by decide +kernel)
theorem kw_X8_320 : Cond.constantLong RX8 320 (31) ∈ tb2 := m2 (List.mem_of_getElem? (i := 1308) (by decide +kernel)) (by decide +kernel)
theorem kw_X8_326 : Cond.constantLong RX8 326 (17) ∈ tb2 := m2 (List.mem_of_getElem? (i := 1307) (by decide +kernel)) (by decide +kernel)
theorem fl_X0_15 : FL RX0 15 0 1 := ⟨RX0, TX0, 4, tyX0, rfl, by decide, wj_X0, by decide, rfl, tyX0_ok, nmX0, Or.inl (m2 (List.mem_of_getElem? (i := 228) (by decide +kernel)) (by decide +kernel))⟩
theorem fl_X0_18 : FL RX0 18 0 2 := ⟨RX0, TX0, 4, tyX0, rfl, by decide, wj_X0, by decide, rfl, tyX0_ok, nmX0, Or.inl (m2 (List.mem_of_getElem? (i := 229) (by decide +kernel)) (by decide +kernel))⟩
theorem fl_X0_21 : FL RX0 21 0 3 := ⟨RX0, TX0, 4, tyX0, rfl, by decide, wj_X0, by decide, rfl, tyX0_ok, nmX0, Or.inl (m2 (List.mem_of_getElem? (i := 230) (by decide +kernel)) (by decide +kernel))⟩
theorem fl_X0_9 : FL RX0 9 0 0 := ⟨RX0, TX0, 4, tyX0, rfl, by decide, wj_X0, by decide, rfl, tyX0_ok, nmX0, Or.inl (m2 (List.mem_of_getElem? (i := 227) (by decide +kernel)) (by decide +kernel))⟩
theorem fl_X1_19 : FL RX1 19 1 2 := ⟨RX1, TX1, 4, tyX1, rfl, by decide, wj_X1, by decide, rfl, tyX1_ok, nmX1, Or.inl (m2 (List.mem_of_getElem? (i := 306) (by decide +kernel)) (by decide +kernel))⟩
theorem fl_X1_23 : FL RX1 23 1 3 := ⟨RX1, TX1, 4, tyX1, rfl, by decide, wj_X1, by decide, rfl, tyX1_ok, nmX1, Or.inl (m2 (List.mem_of_getElem? (i := 308) (by decide +kernel)) (by decide +kernel))⟩
theorem fl_X1_9 : FL RX1 9 1 0 := ⟨RX1, TX1, 4, tyX1, rfl, by decide, wj_X1, by decide, rfl, tyX1_ok, nmX1, Or.inl (m2 (List.mem_of_getElem? (i := 302) (by decide +kernel)) (by decide +kernel))⟩
theorem fl_X2_102 : FL RX2 102 6 2 := ⟨RX6, TX6, 3, tyX6, rfl, by decide, wj_X6, by decide, rfl, tyX6_ok, nmX6, Or.inr ⟨"WireWalkers", m2 (List.mem_of_getElem? (i := 213) (by decide +kernel)) (by decide +kernel)⟩⟩
theorem fl_X2_109 : FL RX2 109 6 0 := ⟨RX6, TX6, 3, tyX6, rfl, by decide, wj_X6, by decide, rfl, tyX6_ok, nmX6, Or.inr ⟨"WireWalkers", m2 (List.mem_of_getElem? (i := 209) (by decide +kernel)) (by decide +kernel)⟩⟩
theorem fl_X2_116 : FL RX2 116 6 1 := ⟨RX6, TX6, 3, tyX6, rfl, by decide, wj_X6, by decide, rfl, tyX6_ok, nmX6, Or.inr ⟨"WireWalkers", m2 (List.mem_of_getElem? (i := 211) (by decide +kernel)) (by decide +kernel)⟩⟩
theorem fl_X2_12 : FL RX2 12 2 0 := ⟨RX2, TX2, 15, tyX2, rfl, by decide, wj_X2, by decide, rfl, tyX2_ok, nmX2, Or.inl (m2 (List.mem_of_getElem? (i := 241) (by decide +kernel)) (by decide +kernel))⟩
theorem fl_X2_130 : FL RX2 130 5 1 := ⟨RX5, TX5, 12, tyX5, rfl, by decide, wj_X5, by decide, rfl, tyX5_ok, nmX5, Or.inr ⟨"WireWalkers", m2 (List.mem_of_getElem? (i := 124) (by decide +kernel)) (by decide +kernel)⟩⟩
theorem fl_X2_133 : FL RX2 133 5 9 := ⟨RX5, TX5, 12, tyX5, rfl, by decide, wj_X5, by decide, rfl, tyX5_ok, nmX5, Or.inr ⟨"WireWalkers", m2 (List.mem_of_getElem? (i := 143) (by decide +kernel)) (by decide +kernel)⟩⟩
theorem fl_X2_143 : FL RX2 143 5 11 := ⟨RX5, TX5, 12, tyX5, rfl, by decide, wj_X5, by decide, rfl, tyX5_ok, nmX5, Or.inr ⟨"WireWalkers", m2 (List.mem_of_getElem? (i := 149) (by decide +kernel)) (by decide +kernel)⟩⟩
theorem fl_X2_149 : FL RX2 149 5 0 := ⟨RX5, TX5, 12, tyX5, rfl, by decide, wj_X5, by decide, rfl, tyX5_ok, nmX5, Or.inr ⟨"WireWalkers", m2 (List.mem_of_getElem? (i := 121) (by decide +kernel)) (by decide +kernel)⟩⟩
theorem fl_X2_21 : FL RX2 21 2 1 := ⟨RX2, TX2, 15, tyX2, rfl, by decide, wj_X2, by decide, rfl, tyX2_ok, nmX2, Or.inl (m2 (List.mem_of_getElem? (i := 242) (by decide +kernel)) (by decide +kernel))⟩
theorem fl_X2_25 : FL RX2 25 2 2 := ⟨RX2, TX2, 15, tyX2, rfl, by decide, wj_X2, by decide, rfl, tyX2_ok, nmX2, Or.inl (m2 (List.mem_of_getElem? (i := 244) (by decide +kernel)) (by decide +kernel))⟩
theorem fl_X2_29 : FL RX2 29 2 3 := ⟨RX2, TX2, 15, tyX2, rfl, by decide, wj_X2, by decide, rfl, tyX2_ok, nmX2, Or.inl (m2 (List.mem_of_getElem? (i := 246) (by decide +kernel)) (by decide +kernel))⟩
theorem fl_X2_32 : FL RX2 32 2 4 := ⟨RX2, TX2, 15, tyX2, rfl, by decide, wj_X2, by decide, rfl, tyX2_ok, nmX2, Or.inl (m2 (List.mem_of_getElem? (i := 247) (by decide +kernel)) (by decide +kernel))⟩
theorem fl_X2_35 : FL RX2 35 2 5 := ⟨RX2, TX2, 15, tyX2, rfl, by decide, wj_X2, by decide, rfl, tyX2_ok, nmX2, Or.inl (m2 (List.mem_of_getElem? (i := 248) (by decide +kernel)) (by decide +kernel))⟩
theorem fl_X2_38 : FL RX2 38 2 6 := ⟨RX2, TX2, 15, tyX2, rfl, by decide, wj_X2, by decide, rfl, tyX2_ok, nmX2, Or.inl (m2 (List.mem_of_getElem? (i := 249) (by decide +kernel)) (by decide +kernel))⟩
theorem fl_X2_41 : FL RX2 41 2 7 := ⟨RX2, TX2, 15, tyX2, rfl, by decide, wj_X2, by decide, rfl, tyX2_ok, nmX2, Or.inl (m2 (List.mem_of_getElem? (i := 250) (by decide +kernel)) (by decide +kernel))⟩
theorem fl_X2_44 : FL RX2 44 2 8 := ⟨RX2, TX2, 15, tyX2, rfl, by decide, wj_X2, by decide, rfl, tyX2_ok, nmX2, Or.inl (m2 (List.mem_of_getElem? (i := 252) (by decide +kernel)) (by decide +kernel))⟩
theorem fl_X2_47 : FL RX2 47 2 9 := ⟨RX2, TX2, 15, tyX2, rfl, by decide, wj_X2, by decide, rfl, tyX2_ok, nmX2, Or.inl (m2 (List.mem_of_getElem? (i := 254) (by decide +kernel)) (by decide +kernel))⟩
theorem fl_X2_50 : FL RX2 50 2 10 := ⟨RX2, TX2, 15, tyX2, rfl, by decide, wj_X2, by decide, rfl, tyX2_ok, nmX2, Or.inl (m2 (List.mem_of_getElem? (i := 256) (by decide +kernel)) (by decide +kernel))⟩
theorem fl_X2_53 : FL RX2 53 2 11 := ⟨RX2, TX2, 15, tyX2, rfl, by decide, wj_X2, by decide, rfl, tyX2_ok, nmX2, Or.inl (m2 (List.mem_of_getElem? (i := 257) (by decide +kernel)) (by decide +kernel))⟩
theorem fl_X2_57 : FL RX2 57 2 12 := ⟨RX2, TX2, 15, tyX2, rfl, by decide, wj_X2, by decide, rfl, tyX2_ok, nmX2, Or.inl (m2 (List.mem_of_getElem? (i := 258) (by decide +kernel)) (by decide +kernel))⟩
theorem fl_X2_60 : FL RX2 60 2 13 := ⟨RX2, TX2, 15, tyX2, rfl, by decide, wj_X2, by decide, rfl, tyX2_ok, nmX2, Or.inl (m2 (List.mem_of_getElem? (i := 260) (by decide +kernel)) (by decide +kernel))⟩
theorem fl_X2_63 : FL RX2 63 2 14 := ⟨RX2, TX2, 15, tyX2, rfl, by decide, wj_X2, by decide, rfl, tyX2_ok, nmX2, Or.inl (m2 (List.mem_of_getElem? (i := 262) (by decide +kernel)) (by decide +kernel))⟩
theorem fl_X2_66 : FL RX2 66 5 7 := ⟨RX5, TX5, 12, tyX5, rfl, by decide, wj_X5, by decide, rfl, tyX5_ok, nmX5, Or.inr ⟨"WireWalkers", m2 (List.mem_of_getElem? (i := 137) (by decide +kernel)) (by decide +kernel)⟩⟩
theorem fl_X2_84 : FL RX2 84 5 10 := ⟨RX5, TX5, 12, tyX5, rfl, by decide, wj_X5, by decide, rfl, tyX5_ok, nmX5, Or.inr ⟨"WireWalkers", m2 (List.mem_of_getElem? (i := 146) (by decide +kernel)) (by decide +kernel)⟩⟩
theorem fl_X2_95 : FL RX2 95 5 2 := ⟨RX5, TX5, 12, tyX5, rfl, by decide, wj_X5, by decide, rfl, tyX5_ok, nmX5, Or.inr ⟨"WireWalkers", m2 (List.mem_of_getElem? (i := 126) (by decide +kernel)) (by decide +kernel)⟩⟩
theorem fl_X3_15 : FL RX3 15 3 1 := ⟨RX3, TX3, 4, tyX3, rfl, by decide, wj_X3, by decide, rfl, tyX3_ok, nmX3, Or.inl (m2 (List.mem_of_getElem? (i := 183) (by decide +kernel)) (by decide +kernel))⟩
theorem fl_X3_18 : FL RX3 18 3 2 := ⟨RX3, TX3, 4, tyX3, rfl, by decide, wj_X3, by decide, rfl, tyX3_ok, nmX3, Or.inl (m2 (List.mem_of_getElem? (i := 184) (by decide +kernel)) (by decide +kernel))⟩
theorem fl_X3_21 : FL RX3 21 3 3 := ⟨RX3, TX3, 4, tyX3, rfl, by decide, wj_X3, by decide, rfl, tyX3_ok, nmX3, Or.inl (m2 (List.mem_of_getElem? (i := 185) (by decide +kernel)) (by decide +kernel))⟩
theorem fl_X3_9 : FL RX3 9 3 0 := ⟨RX3, TX3, 4, tyX3, rfl, by decide, wj_X3, by decide, rfl, tyX3_ok, nmX3, Or.inl (m2 (List.mem_of_getElem? (i := 182) (by decide +kernel)) (by decide +kernel))⟩
theorem fl_X4_21 : FL RX4 21 4 0 := ⟨RX4, TX4, 2, tyX4, rfl, by decide, wj_X4, by decide, rfl, tyX4_ok, nmX4, Or.inl (m2 (List.mem_of_getElem? (i := 103) (by decide +kernel)) (by decide +kernel))⟩
theorem fl_X4_9 : FL RX4 9 4 1 := ⟨RX4, TX4, 2, tyX4, rfl, by decide, wj_X4, by decide, rfl, tyX4_ok, nmX4, Or.inl (m2 (List.mem_of_getElem? (i := 104) (by decide +kernel)) (by decide +kernel))⟩
theorem fl_X5_15 : FL RX5 15 5 1 := ⟨RX5, TX5, 12, tyX5, rfl, by decide, wj_X5, by decide, rfl, tyX5_ok, nmX5, Or.inl (m2 (List.mem_of_getElem? (i := 122) (by decide +kernel)) (by decide +kernel))⟩
theorem fl_X5_18 : FL RX5 18 5 2 := ⟨RX5, TX5, 12, tyX5, rfl, by decide, wj_X5, by decide, rfl, tyX5_ok, nmX5, Or.inl (m2 (List.mem_of_getElem? (i := 125) (by decide +kernel)) (by decide +kernel))⟩
theorem fl_X5_21 : FL RX5 21 5 3 := ⟨RX5, TX5, 12, tyX5, rfl, by decide, wj_X5, by decide, rfl, tyX5_ok, nmX5, Or.inl (m2 (List.mem_of_getElem? (i := 128) (by decide +kernel)) (by decide +kernel))⟩
theorem fl_X5_24 : FL RX5 24 5 4 := ⟨RX5, TX5, 12, tyX5, rfl, by decide, wj_X5, by decide, rfl, tyX5_ok, nmX5, Or.inl (m2 (List.mem_of_getElem? (i := 130) (by decide +kernel)) (by decide +kernel))⟩
theorem fl_X5_27 : FL RX5 27 5 5 := ⟨RX5, TX5, 12, tyX5, rfl, by decide, wj_X5, by decide, rfl, tyX5_ok, nmX5, Or.inl (m2 (List.mem_of_getElem? (i := 132) (by decide +kernel)) (by decide +kernel))⟩
theorem fl_X5_30 : FL RX5 30 5 6 := ⟨RX5, TX5, 12, tyX5, rfl, by decide, wj_X5, by decide, rfl, tyX5_ok, nmX5, Or.inl (m2 (List.mem_of_getElem? (i := 134) (by decide +kernel)) (by decide +kernel))⟩
theorem fl_X5_33 : FL RX5 33 5 7 := ⟨RX5, TX5, 12, tyX5, rfl, by decide, wj_X5, by decide, rfl, tyX5_ok, nmX5, Or.inl (m2 (List.mem_of_getElem? (i := 136) (by decide +kernel)) (by decide +kernel))⟩
theorem fl_X5_37 : FL RX5 37 5 8 := ⟨RX5, TX5, 12, tyX5, rfl, by decide, wj_X5, by decide, rfl, tyX5_ok, nmX5, Or.inl (m2 (List.mem_of_getElem? (i := 139) (by decide +kernel)) (by decide +kernel))⟩
theorem fl_X5_55 : FL RX5 55 4 1 := ⟨RX4, TX4, 2, tyX4, rfl, by decide, wj_X4, by decide, rfl, tyX4_ok, nmX4, Or.inr ⟨"WireWalkers", m2 (List.mem_of_getElem? (i := 105) (by decide +kernel)) (by decide +kernel)⟩⟩
theorem fl_X5_9 : FL RX5 9 5 0 := ⟨RX5, TX5, 12, tyX5, rfl, by decide, wj_X5, by decide, rfl, tyX5_ok, nmX5, Or.inl (m2 (List.mem_of_getElem? (i := 119) (by decide +kernel)) (by decide +kernel))⟩
theorem fl_X6_15 : FL RX6 15 6 1 := ⟨RX6, TX6, 3, tyX6, rfl, by decide, wj_X6, by decide, rfl, tyX6_ok, nmX6, Or.inl (m2 (List.mem_of_getElem? (i := 210) (by decide +kernel)) (by decide +kernel))⟩
theorem fl_X6_18 : FL RX6 18 6 2 := ⟨RX6, TX6, 3, tyX6, rfl, by decide, wj_X6, by decide, rfl, tyX6_ok, nmX6, Or.inl (m2 (List.mem_of_getElem? (i := 212) (by decide +kernel)) (by decide +kernel))⟩
theorem fl_X6_27 : FL RX6 27 5 8 := ⟨RX5, TX5, 12, tyX5, rfl, by decide, wj_X5, by decide, rfl, tyX5_ok, nmX5, Or.inr ⟨"WireWalkers", m2 (List.mem_of_getElem? (i := 140) (by decide +kernel)) (by decide +kernel)⟩⟩
theorem fl_X6_33 : FL RX6 33 5 5 := ⟨RX5, TX5, 12, tyX5, rfl, by decide, wj_X5, by decide, rfl, tyX5_ok, nmX5, Or.inr ⟨"WireWalkers", m2 (List.mem_of_getElem? (i := 133) (by decide +kernel)) (by decide +kernel)⟩⟩
theorem fl_X6_40 : FL RX6 40 5 4 := ⟨RX5, TX5, 12, tyX5, rfl, by decide, wj_X5, by decide, rfl, tyX5_ok, nmX5, Or.inr ⟨"WireWalkers", m2 (List.mem_of_getElem? (i := 131) (by decide +kernel)) (by decide +kernel)⟩⟩
theorem fl_X6_43 : FL RX6 43 5 6 := ⟨RX5, TX5, 12, tyX5, rfl, by decide, wj_X5, by decide, rfl, tyX5_ok, nmX5, Or.inr ⟨"WireWalkers", m2 (List.mem_of_getElem? (i := 135) (by decide +kernel)) (by decide +kernel)⟩⟩
theorem fl_X6_9 : FL RX6 9 6 0 := ⟨RX6, TX6, 3, tyX6, rfl, by decide, wj_X6, by decide, rfl, tyX6_ok, nmX6, Or.inl (m2 (List.mem_of_getElem? (i := 208) (by decide +kernel)) (by decide +kernel))⟩
theorem fl_X7_103 : FL RX7 103 4 1 := ⟨RX4, TX4, 2, tyX4, rfl, by decide, wj_X4, by decide, rfl, tyX4_ok, nmX4, Or.inr ⟨"WireWalkers", m2 (List.mem_of_getElem? (i := 106) (by decide +kernel)) (by decide +kernel)⟩⟩
theorem fl_X7_117 : FL RX7 117 5 0 := ⟨RX5, TX5, 12, tyX5, rfl, by decide, wj_X5, by decide, rfl, tyX5_ok, nmX5, Or.inr ⟨"WireWalkers", m2 (List.mem_of_getElem? (i := 120) (by decide +kernel)) (by decide +kernel)⟩⟩
theorem fl_X7_120 : FL RX7 120 5 1 := ⟨RX5, TX5, 12, tyX5, rfl, by decide, wj_X5, by decide, rfl, tyX5_ok, nmX5, Or.inr ⟨"WireWalkers", m2 (List.mem_of_getElem? (i := 123) (by decide +kernel)) (by decide +kernel)⟩⟩
theorem fl_X7_123 : FL RX7 123 5 2 := ⟨RX5, TX5, 12, tyX5, rfl, by decide, wj_X5, by decide, rfl, tyX5_ok, nmX5, Or.inr ⟨"WireWalkers", m2 (List.mem_of_getElem? (i := 127) (by decide +kernel)) (by decide +kernel)⟩⟩
theorem fl_X7_129 : FL RX7 129 5 3 := ⟨RX5, TX5, 12, tyX5, rfl, by decide, wj_X5, by decide, rfl, tyX5_ok, nmX5, Or.inr ⟨"WireWalkers", m2 (List.mem_of_getElem? (i := 129) (by decide +kernel)) (by decide +kernel)⟩⟩
theorem fl_X7_132 : FL RX7 132 5 9 := ⟨RX5, TX5, 12, tyX5, rfl, by decide, wj_X5, by decide, rfl, tyX5_ok, nmX5, Or.inr ⟨"WireWalkers", m2 (List.mem_of_getElem? (i := 144) (by decide +kernel)) (by decide +kernel)⟩⟩
theorem fl_X7_138 : FL RX7 138 5 10 := ⟨RX5, TX5, 12, tyX5, rfl, by decide, wj_X5, by decide, rfl, tyX5_ok, nmX5, Or.inr ⟨"WireWalkers", m2 (List.mem_of_getElem? (i := 147) (by decide +kernel)) (by decide +kernel)⟩⟩
theorem fl_X7_141 : FL RX7 141 5 11 := ⟨RX5, TX5, 12, tyX5, rfl, by decide, wj_X5, by decide, rfl, tyX5_ok, nmX5, Or.inr ⟨"WireWalkers", m2 (List.mem_of_getElem? (i := 150) (by decide +kernel)) (by decide +kernel)⟩⟩
theorem fl_X7_154 : FL RX7 154 5 8 := ⟨RX5, TX5, 12, tyX5, rfl, by decide, wj_X5, by decide, rfl, tyX5_ok, nmX5, Or.inr ⟨"WireWalkers", m2 (List.mem_of_getElem? (i := 141) (by decide +kernel)) (by decide +kernel)⟩⟩
theorem fl_X7_16 : FL RX7 16 7 0 := ⟨RX7, TX7, 16, tyX7, rfl, by decide, wj_X7, by decide, rfl, tyX7_ok, nmX7, Or.inl (m2 (List.mem_of_getElem? (i := 320) (by decide +kernel)) (by decide +kernel))⟩
theorem fl_X7_160 : FL RX7 160 1 1 := ⟨RX1, TX1, 4, tyX1, rfl, by decide, wj_X1, by decide, rfl, tyX1_ok, nmX1, Or.inr ⟨"WireWalkers", m2 (List.mem_of_getElem? (i := 305) (by decide +kernel)) (by decide +kernel)⟩⟩
theorem fl_X7_167 : FL RX7 167 1 3 := ⟨RX1, TX1, 4, tyX1, rfl, by decide, wj_X1, by decide, rfl, tyX1_ok, nmX1, Or.inr ⟨"WireWalkers", m2 (List.mem_of_getElem? (i := 309) (by decide +kernel)) (by decide +kernel)⟩⟩
theorem fl_X7_168 : FL RX7 168 1 0 := ⟨RX1, TX1, 4, tyX1, rfl, by decide, wj_X1, by decide, rfl, tyX1_ok, nmX1, Or.inr ⟨"WireWalkers", m2 (List.mem_of_getElem? (i := 303) (by decide +kernel)) (by decide +kernel)⟩⟩
theorem fl_X7_175 : FL RX7 175 2 1 := ⟨RX2, TX2, 15, tyX2, rfl, by decide, wj_X2, by decide, rfl, tyX2_ok, nmX2, Or.inr ⟨"WireWalkers", m2 (List.mem_of_getElem? (i := 243) (by decide +kernel)) (by decide +kernel)⟩⟩
theorem fl_X7_192 : FL RX7 192 5 7 := ⟨RX5, TX5, 12, tyX5, rfl, by decide, wj_X5, by decide, rfl, tyX5_ok, nmX5, Or.inr ⟨"WireWalkers", m2 (List.mem_of_getElem? (i := 138) (by decide +kernel)) (by decide +kernel)⟩⟩
theorem fl_X7_195 : FL RX7 195 0 3 := ⟨RX0, TX0, 4, tyX0, rfl, by decide, wj_X0, by decide, rfl, tyX0_ok, nmX0, Or.inr ⟨"WireWalkers", m2 (List.mem_of_getElem? (i := 231) (by decide +kernel)) (by decide +kernel)⟩⟩
theorem fl_X7_198 : FL RX7 198 2 7 := ⟨RX2, TX2, 15, tyX2, rfl, by decide, wj_X2, by decide, rfl, tyX2_ok, nmX2, Or.inr ⟨"WireWalkers", m2 (List.mem_of_getElem? (i := 251) (by decide +kernel)) (by decide +kernel)⟩⟩
theorem fl_X7_20 : FL RX7 20 7 1 := ⟨RX7, TX7, 16, tyX7, rfl, by decide, wj_X7, by decide, rfl, tyX7_ok, nmX7, Or.inl (m2 (List.mem_of_getElem? (i := 321) (by decide +kernel)) (by decide +kernel))⟩
theorem fl_X7_201 : FL RX7 201 2 8 := ⟨RX2, TX2, 15, tyX2, rfl, by decide, wj_X2, by decide, rfl, tyX2_ok, nmX2, Or.inr ⟨"WireWalkers", m2 (List.mem_of_getElem? (i := 253) (by decide +kernel)) (by decide +kernel)⟩⟩
theorem fl_X7_204 : FL RX7 204 2 9 := ⟨RX2, TX2, 15, tyX2, rfl, by decide, wj_X2, by decide, rfl, tyX2_ok, nmX2, Or.inr ⟨"WireWalkers", m2 (List.mem_of_getElem? (i := 255) (by decide +kernel)) (by decide +kernel)⟩⟩
theorem fl_X7_207 : FL RX7 207 2 13 := ⟨RX2, TX2, 15, tyX2, rfl, by decide, wj_X2, by decide, rfl, tyX2_ok, nmX2, Or.inr ⟨"WireWalkers", m2 (List.mem_of_getElem? (i := 261) (by decide +kernel)) (by decide +kernel)⟩⟩
theorem fl_X7_210 : FL RX7 210 2 14 := ⟨RX2, TX2, 15, tyX2, rfl, by decide, wj_X2, by decide, rfl, tyX2_ok, nmX2, Or.inr ⟨"WireWalkers", m2 (List.mem_of_getElem? (i := 263) (by decide +kernel)) (by decide +kernel)⟩⟩
theorem fl_X7_213 : FL RX7 213 2 12 := ⟨RX2, TX2, 15, tyX2, rfl, by decide, wj_X2, by decide, rfl, tyX2_ok, nmX2, Or.inr ⟨"WireWalkers", m2 (List.mem_of_getElem? (i := 259) (by decide +kernel)) (by decide +kernel)⟩⟩
theorem fl_X7_222 : FL RX7 222 2 2 := ⟨RX2, TX2, 15, tyX2, rfl, by decide, wj_X2, by decide, rfl, tyX2_ok, nmX2, Or.inr ⟨"WireWalkers", m2 (List.mem_of_getElem? (i := 245) (by decide +kernel)) (by decide +kernel)⟩⟩
theorem fl_X7_242 : FL RX7 242 3 3 := ⟨RX3, TX3, 4, tyX3, rfl, by decide, wj_X3, by decide, rfl, tyX3_ok, nmX3, Or.inr ⟨"WireWalkers", m2 (List.mem_of_getElem? (i := 186) (by decide +kernel)) (by decide +kernel)⟩⟩
theorem fl_X7_26 : FL RX7 26 7 2 := ⟨RX7, TX7, 16, tyX7, rfl, by decide, wj_X7, by decide, rfl, tyX7_ok, nmX7, Or.inl (m2 (List.mem_of_getElem? (i := 322) (by decide +kernel)) (by decide +kernel))⟩
theorem fl_X7_301 : FL RX7 301 1 2 := ⟨RX1, TX1, 4, tyX1, rfl, by decide, wj_X1, by decide, rfl, tyX1_ok, nmX1, Or.inr ⟨"WireWalkers", m2 (List.mem_of_getElem? (i := 307) (by decide +kernel)) (by decide +kernel)⟩⟩
theorem fl_X7_33 : FL RX7 33 7 3 := ⟨RX7, TX7, 16, tyX7, rfl, by decide, wj_X7, by decide, rfl, tyX7_ok, nmX7, Or.inl (m2 (List.mem_of_getElem? (i := 323) (by decide +kernel)) (by decide +kernel))⟩
theorem fl_X7_40 : FL RX7 40 7 4 := ⟨RX7, TX7, 16, tyX7, rfl, by decide, wj_X7, by decide, rfl, tyX7_ok, nmX7, Or.inl (m2 (List.mem_of_getElem? (i := 324) (by decide +kernel)) (by decide +kernel))⟩
theorem fl_X7_44 : FL RX7 44 7 5 := ⟨RX7, TX7, 16, tyX7, rfl, by decide, wj_X7, by decide, rfl, tyX7_ok, nmX7, Or.inl (m2 (List.mem_of_getElem? (i := 325) (by decide +kernel)) (by decide +kernel))⟩
theorem fl_X7_47 : FL RX7 47 7 6 := ⟨RX7, TX7, 16, tyX7, rfl, by decide, wj_X7, by decide, rfl, tyX7_ok, nmX7, Or.inl (m2 (List.mem_of_getElem? (i := 326) (by decide +kernel)) (by decide +kernel))⟩
theorem fl_X7_51 : FL RX7 51 7 7 := ⟨RX7, TX7, 16, tyX7, rfl, by decide, wj_X7, by decide, rfl, tyX7_ok, nmX7, Or.inl (m2 (List.mem_of_getElem? (i := 327) (by decide +kernel)) (by decide +kernel))⟩
theorem fl_X7_54 : FL RX7 54 7 8 := ⟨RX7, TX7, 16, tyX7, rfl, by decide, wj_X7, by decide, rfl, tyX7_ok, nmX7, Or.inl (m2 (List.mem_of_getElem? (i := 328) (by decide +kernel)) (by decide +kernel))⟩
theorem fl_X7_58 : FL RX7 58 7 9 := ⟨RX7, TX7, 16, tyX7, rfl, by decide, wj_X7, by decide, rfl, tyX7_ok, nmX7, Or.inl (m2 (List.mem_of_getElem? (i := 329) (by decide +kernel)) (by decide +kernel))⟩
theorem fl_X7_63 : FL RX7 63 7 10 := ⟨RX7, TX7, 16, tyX7, rfl, by decide, wj_X7, by decide, rfl, tyX7_ok, nmX7, Or.inl (m2 (List.mem_of_getElem? (i := 330) (by decide +kernel)) (by decide +kernel))⟩
theorem fl_X7_67 : FL RX7 67 7 11 := ⟨RX7, TX7, 16, tyX7, rfl, by decide, wj_X7, by decide, rfl, tyX7_ok, nmX7, Or.inl (m2 (List.mem_of_getElem? (i := 331) (by decide +kernel)) (by decide +kernel))⟩
theorem fl_X7_71 : FL RX7 71 7 12 := ⟨RX7, TX7, 16, tyX7, rfl, by decide, wj_X7, by decide, rfl, tyX7_ok, nmX7, Or.inl (m2 (List.mem_of_getElem? (i := 332) (by decide +kernel)) (by decide +kernel))⟩
theorem fl_X7_74 : FL RX7 74 7 13 := ⟨RX7, TX7, 16, tyX7, rfl, by decide, wj_X7, by decide, rfl, tyX7_ok, nmX7, Or.inl (m2 (List.mem_of_getElem? (i := 333) (by decide +kernel)) (by decide +kernel))⟩
theorem fl_X7_78 : FL RX7 78 7 14 := ⟨RX7, TX7, 16, tyX7, rfl, by decide, wj_X7, by decide, rfl, tyX7_ok, nmX7, Or.inl (m2 (List.mem_of_getElem? (i := 334) (by decide +kernel)) (by decide +kernel))⟩
theorem fl_X7_81 : FL RX7 81 7 15 := ⟨RX7, TX7, 16, tyX7, rfl, by decide, wj_X7, by decide, rfl, tyX7_ok, nmX7, Or.inl (m2 (List.mem_of_getElem? (i := 335) (by decide +kernel)) (by decide +kernel))⟩
theorem fl_X8_127 : FL RX8 127 8 7 := ⟨RX8, TX8, 33, tyX8, rfl, by decide, wj_X8, by decide, rfl, tyX8_ok, nmX8, Or.inl (m2 (List.mem_of_getElem? (i := 851) (by decide +kernel)) (by decide +kernel))⟩
theorem fl_X8_13 : FL RX8 13 8 1 := ⟨RX8, TX8, 33, tyX8, rfl, by decide, wj_X8, by decide, rfl, tyX8_ok, nmX8, Or.inl (m2 (List.mem_of_getElem? (i := 845) (by decide +kernel)) (by decide +kernel))⟩
theorem fl_X8_133 : FL RX8 133 8 9 := ⟨RX8, TX8, 33, tyX8, rfl, by decide, wj_X8, by decide, rfl, tyX8_ok, nmX8, Or.inl (m2 (List.mem_of_getElem? (i := 853) (by decide +kernel)) (by decide +kernel))⟩
theorem fl_X8_16 : FL RX8 16 8 2 := ⟨RX8, TX8, 33, tyX8, rfl, by decide, wj_X8, by decide, rfl, tyX8_ok, nmX8, Or.inl (m2 (List.mem_of_getElem? (i := 846) (by decide +kernel)) (by decide +kernel))⟩
theorem fl_X8_169 : FL RX8 169 8 12 := ⟨RX8, TX8, 33, tyX8, rfl, by decide, wj_X8, by decide, rfl, tyX8_ok, nmX8, Or.inl (m2 (List.mem_of_getElem? (i := 856) (by decide +kernel)) (by decide +kernel))⟩
theorem fl_X8_174 : FL RX8 174 8 28 := ⟨RX8, TX8, 33, tyX8, rfl, by decide, wj_X8, by decide, rfl, tyX8_ok, nmX8, Or.inl (m2 (List.mem_of_getElem? (i := 872) (by decide +kernel)) (by decide +kernel))⟩
theorem fl_X8_178 : FL RX8 178 8 14 := ⟨RX8, TX8, 33, tyX8, rfl, by decide, wj_X8, by decide, rfl, tyX8_ok, nmX8, Or.inl (m2 (List.mem_of_getElem? (i := 858) (by decide +kernel)) (by decide +kernel))⟩
theorem fl_X8_19 : FL RX8 19 8 3 := ⟨RX8, TX8, 33, tyX8, rfl, by decide, wj_X8, by decide, rfl, tyX8_ok, nmX8, Or.inl (m2 (List.mem_of_getElem? (i := 847) (by decide +kernel)) (by decide +kernel))⟩
theorem fl_X8_191 : FL RX8 191 8 27 := ⟨RX8, TX8, 33, tyX8, rfl, by decide, wj_X8, by decide, rfl, tyX8_ok, nmX8, Or.inl (m2 (List.mem_of_getElem? (i := 871) (by decide +kernel)) (by decide +kernel))⟩
theorem fl_X8_22 : FL RX8 22 8 5 := ⟨RX8, TX8, 33, tyX8, rfl, by decide, wj_X8, by decide, rfl, tyX8_ok, nmX8, Or.inl (m2 (List.mem_of_getElem? (i := 849) (by decide +kernel)) (by decide +kernel))⟩
theorem fl_X8_25 : FL RX8 25 8 6 := ⟨RX8, TX8, 33, tyX8, rfl, by decide, wj_X8, by decide, rfl, tyX8_ok, nmX8, Or.inl (m2 (List.mem_of_getElem? (i := 850) (by decide +kernel)) (by decide +kernel))⟩
theorem fl_X8_261 : FL RX8 261 8 29 := ⟨RX8, TX8, 33, tyX8, rfl, by decide, wj_X8, by decide, rfl, tyX8_ok, nmX8, Or.inl (m2 (List.mem_of_getElem? (i := 873) (by decide +kernel)) (by decide +kernel))⟩
theorem fl_X8_28 : FL RX8 28 8 8 := ⟨RX8, TX8, 33, tyX8, rfl, by decide, wj_X8, by decide, rfl, tyX8_ok, nmX8, Or.inl (m2 (List.mem_of_getElem? (i := 852) (by decide +kernel)) (by decide +kernel))⟩
theorem fl_X8_306 : FL RX8 306 8 32 := ⟨RX8, TX8, 33, tyX8, rfl, by decide, wj_X8, by decide, rfl, tyX8_ok, nmX8, Or.inl (m2 (List.mem_of_getElem? (i := 876) (by decide +kernel)) (by decide +kernel))⟩
theorem fl_X8_31 : FL RX8 31 8 10 := ⟨RX8, TX8, 33, tyX8, rfl, by decide, wj_X8, by decide, rfl, tyX8_ok, nmX8, Or.inl (m2 (List.mem_of_getElem? (i := 854) (by decide +kernel)) (by decide +kernel))⟩
theorem fl_X8_34 : FL RX8 34 8 11 := ⟨RX8, TX8, 33, tyX8, rfl, by decide, wj_X8, by decide, rfl, tyX8_ok, nmX8, Or.inl (m2 (List.mem_of_getElem? (i := 855) (by decide +kernel)) (by decide +kernel))⟩
theorem fl_X8_37 : FL RX8 37 8 13 := ⟨RX8, TX8, 33, tyX8, rfl, by decide, wj_X8, by decide, rfl, tyX8_ok, nmX8, Or.inl (m2 (List.mem_of_getElem? (i := 857) (by decide +kernel)) (by decide +kernel))⟩
theorem fl_X8_40 : FL RX8 40 8 15 := ⟨RX8, TX8, 33, tyX8, rfl, by decide, wj_X8, by decide, rfl, tyX8_ok, nmX8, Or.inl (m2 (List.mem_of_getElem? (i := 859) (by decide +kernel)) (by decide +kernel))⟩
theorem fl_X8_43 : FL RX8 43 8 16 := ⟨RX8, TX8, 33, tyX8, rfl, by decide, wj_X8, by decide, rfl, tyX8_ok, nmX8, Or.inl (m2 (List.mem_of_getElem? (i := 860) (by decide +kernel)) (by decide +kernel))⟩
theorem fl_X8_46 : FL RX8 46 8 17 := ⟨RX8, TX8, 33, tyX8, rfl, by decide, wj_X8, by decide, rfl, tyX8_ok, nmX8, Or.inl (m2 (List.mem_of_getElem? (i := 861) (by decide +kernel)) (by decide +kernel))⟩
theorem fl_X8_49 : FL RX8 49 8 18 := ⟨RX8, TX8, 33, tyX8, rfl, by decide, wj_X8, by decide, rfl, tyX8_ok, nmX8, Or.inl (m2 (List.mem_of_getElem? (i := 862) (by decide +kernel)) (by decide +kernel))⟩
theorem fl_X8_52 : FL RX8 52 8 19 := ⟨RX8, TX8, 33, tyX8, rfl, by decide, wj_X8, by decide, rfl, tyX8_ok, nmX8, Or.inl (m2 (List.mem_of_getElem? (i := 863) (by decide +kernel)) (by decide +kernel))⟩
theorem fl_X8_55 : FL RX8 55 8 20 := ⟨RX8, TX8, 33, tyX8, rfl, by decide, wj_X8, by decide, rfl, tyX8_ok, nmX8, Or.inl (m2 (List.mem_of_getElem? (i := 864) (by decide +kernel)) (by decide +kernel))⟩
theorem fl_X8_58 : FL RX8 58 8 21 := ⟨RX8, TX8, 33, tyX8, rfl, by decide, wj_X8, by decide, rfl, tyX8_ok, nmX8, Or.inl (m2 (List.mem_of_getElem? (i := 865) (by decide +kernel)) (by decide +kernel))⟩
theorem fl_X8_61 : FL RX8 61 8 22 := ⟨RX8, TX8, 33, tyX8, rfl, by decide, wj_X8, by decide, rfl, tyX8_ok, nmX8, Or.inl (m2 (List.mem_of_getElem? (i := 866) (by decide +kernel)) (by decide +kernel))⟩
theorem fl_X8_64 : FL RX8 64 8 23 := ⟨RX8, TX8, 33, tyX8, rfl, by decide, wj_X8, by decide, rfl, tyX8_ok, nmX8, Or.inl (m2 (List.mem_of_getElem? (i := 867) (by decide +kernel)) (by decide +kernel))⟩
theorem fl_X8_67 : FL RX8 67 8 24 := ⟨RX8, TX8, 33, tyX8, rfl, by decide, wj_X8, by decide, rfl, tyX8_ok, nmX8, Or.inl (m2 (List.mem_of_getElem? (i := 868) (by decide +kernel)) (by decide +kernel))⟩
theorem fl_X8_7 : FL RX8 7 8 0 := ⟨RX8, TX8, 33, tyX8, rfl, by decide, wj_X8, by decide, rfl, tyX8_ok, nmX8, Or.inl (m2 (List.mem_of_getElem? (i := 844) (by decide +kernel)) (by decide +kernel))⟩
theorem fl_X8_70 : FL RX8 70 8 25 := ⟨RX8, TX8, 33, tyX8, rfl, by decide, wj_X8, by decide, rfl, tyX8_ok, nmX8, Or.inl (m2 (List.mem_of_getElem? (i := 869) (by decide +kernel)) (by decide +kernel))⟩
theorem fl_X8_73 : FL RX8 73 8 26 := ⟨RX8, TX8, 33, tyX8, rfl, by decide, wj_X8, by decide, rfl, tyX8_ok, nmX8, Or.inl (m2 (List.mem_of_getElem? (i := 870) (by decide +kernel)) (by decide +kernel))⟩
theorem fl_X8_76 : FL RX8 76 8 30 := ⟨RX8, TX8, 33, tyX8, rfl, by decide, wj_X8, by decide, rfl, tyX8_ok, nmX8, Or.inl (m2 (List.mem_of_getElem? (i := 874) (by decide +kernel)) (by decide +kernel))⟩
theorem fl_X8_79 : FL RX8 79 8 31 := ⟨RX8, TX8, 33, tyX8, rfl, by decide, wj_X8, by decide, rfl, tyX8_ok, nmX8, Or.inl (m2 (List.mem_of_getElem? (i := 875) (by decide +kernel)) (by decide +kernel))⟩
theorem fl_X8_89 : FL RX8 89 8 4 := ⟨RX8, TX8, 33, tyX8, rfl, by decide, wj_X8, by decide, rfl, tyX8_ok, nmX8, Or.inl (m2 (List.mem_of_getElem? (i := 848) (by decide +kernel)) (by decide +kernel))⟩
theorem fp_X1_15 : FP RX1 15 1 1 .boolean := ⟨RX1, TX1, 4, tyX1, rfl, by decide, wj_X1, by decide, rfl, tyX1_ok, nmX1, Or.inl (m2 (List.mem_of_getElem? (i := 304) (by decide +kernel)) (by decide +kernel)), rfl, rfl⟩
theorem fp_X1_19 : FP RX1 19 1 2 .int := ⟨RX1, TX1, 4, tyX1, rfl, by decide, wj_X1, by decide, rfl, tyX1_ok, nmX1, Or.inl (m2 (List.mem_of_getElem? (i := 306) (by decide +kernel)) (by decide +kernel)), rfl, rfl⟩
theorem fp_X1_23 : FP RX1 23 1 3 .int := ⟨RX1, TX1, 4, tyX1, rfl, by decide, wj_X1, by decide, rfl, tyX1_ok, nmX1, Or.inl (m2 (List.mem_of_getElem? (i := 308) (by decide +kernel)) (by decide +kernel)), rfl, rfl⟩
theorem fp_X2_53 : FP RX2 53 2 11 .int := ⟨RX2, TX2, 15, tyX2, rfl, by decide, wj_X2, by decide, rfl, tyX2_ok, nmX2, Or.inl (m2 (List.mem_of_getElem? (i := 257) (by decide +kernel)) (by decide +kernel)), rfl, rfl⟩
theorem fp_X2_57 : FP RX2 57 2 12 .int := ⟨RX2, TX2, 15, tyX2, rfl, by decide, wj_X2, by decide, rfl, tyX2_ok, nmX2, Or.inl (m2 (List.mem_of_getElem? (i := 258) (by decide +kernel)) (by decide +kernel)), rfl, rfl⟩
theorem fp_X2_60 : FP RX2 60 2 13 .int := ⟨RX2, TX2, 15, tyX2, rfl, by decide, wj_X2, by decide, rfl, tyX2_ok, nmX2, Or.inl (m2 (List.mem_of_getElem? (i := 260) (by decide +kernel)) (by decide +kernel)), rfl, rfl⟩
theorem fp_X2_63 : FP RX2 63 2 14 .int := ⟨RX2, TX2, 15, tyX2, rfl, by decide, wj_X2, by decide, rfl, tyX2_ok, nmX2, Or.inl (m2 (List.mem_of_getElem? (i := 262) (by decide +kernel)) (by decide +kernel)), rfl, rfl⟩
theorem fp_X3_21 : FP RX3 21 3 3 .int := ⟨RX3, TX3, 4, tyX3, rfl, by decide, wj_X3, by decide, rfl, tyX3_ok, nmX3, Or.inl (m2 (List.mem_of_getElem? (i := 185) (by decide +kernel)) (by decide +kernel)), rfl, rfl⟩
theorem fp_X4_9 : FP RX4 9 4 1 .int := ⟨RX4, TX4, 2, tyX4, rfl, by decide, wj_X4, by decide, rfl, tyX4_ok, nmX4, Or.inl (m2 (List.mem_of_getElem? (i := 104) (by decide +kernel)) (by decide +kernel)), rfl, rfl⟩
theorem fp_X5_33 : FP RX5 33 5 7 .int := ⟨RX5, TX5, 12, tyX5, rfl, by decide, wj_X5, by decide, rfl, tyX5_ok, nmX5, Or.inl (m2 (List.mem_of_getElem? (i := 136) (by decide +kernel)) (by decide +kernel)), rfl, rfl⟩
theorem fp_X5_37 : FP RX5 37 5 8 .int := ⟨RX5, TX5, 12, tyX5, rfl, by decide, wj_X5, by decide, rfl, tyX5_ok, nmX5, Or.inl (m2 (List.mem_of_getElem? (i := 139) (by decide +kernel)) (by decide +kernel)), rfl, rfl⟩
theorem fp_X7_103 : FP RX7 103 4 1 .int := ⟨RX4, TX4, 2, tyX4, rfl, by decide, wj_X4, by decide, rfl, tyX4_ok, nmX4, Or.inr ⟨"WireWalkers", m2 (List.mem_of_getElem? (i := 106) (by decide +kernel)) (by decide +kernel)⟩, rfl, rfl⟩
theorem fp_X7_132 : FP RX7 132 5 9 .int := ⟨RX5, TX5, 12, tyX5, rfl, by decide, wj_X5, by decide, rfl, tyX5_ok, nmX5, Or.inr ⟨"WireWalkers", m2 (List.mem_of_getElem? (i := 144) (by decide +kernel)) (by decide +kernel)⟩, rfl, rfl⟩
theorem fp_X7_138 : FP RX7 138 5 10 .int := ⟨RX5, TX5, 12, tyX5, rfl, by decide, wj_X5, by decide, rfl, tyX5_ok, nmX5, Or.inr ⟨"WireWalkers", m2 (List.mem_of_getElem? (i := 147) (by decide +kernel)) (by decide +kernel)⟩, rfl, rfl⟩
theorem fp_X7_141 : FP RX7 141 5 11 .int := ⟨RX5, TX5, 12, tyX5, rfl, by decide, wj_X5, by decide, rfl, tyX5_ok, nmX5, Or.inr ⟨"WireWalkers", m2 (List.mem_of_getElem? (i := 150) (by decide +kernel)) (by decide +kernel)⟩, rfl, rfl⟩
theorem fp_X7_154 : FP RX7 154 5 8 .int := ⟨RX5, TX5, 12, tyX5, rfl, by decide, wj_X5, by decide, rfl, tyX5_ok, nmX5, Or.inr ⟨"WireWalkers", m2 (List.mem_of_getElem? (i := 141) (by decide +kernel)) (by decide +kernel)⟩, rfl, rfl⟩
theorem fp_X7_160 : FP RX7 160 1 1 .boolean := ⟨RX1, TX1, 4, tyX1, rfl, by decide, wj_X1, by decide, rfl, tyX1_ok, nmX1, Or.inr ⟨"WireWalkers", m2 (List.mem_of_getElem? (i := 305) (by decide +kernel)) (by decide +kernel)⟩, rfl, rfl⟩
theorem fp_X7_242 : FP RX7 242 3 3 .int := ⟨RX3, TX3, 4, tyX3, rfl, by decide, wj_X3, by decide, rfl, tyX3_ok, nmX3, Or.inr ⟨"WireWalkers", m2 (List.mem_of_getElem? (i := 186) (by decide +kernel)) (by decide +kernel)⟩, rfl, rfl⟩
theorem fp_X7_67 : FP RX7 67 7 11 .boolean := ⟨RX7, TX7, 16, tyX7, rfl, by decide, wj_X7, by decide, rfl, tyX7_ok, nmX7, Or.inl (m2 (List.mem_of_getElem? (i := 331) (by decide +kernel)) (by decide +kernel)), rfl, rfl⟩
theorem fp_X7_71 : FP RX7 71 7 12 .boolean := ⟨RX7, TX7, 16, tyX7, rfl, by decide, wj_X7, by decide, rfl, tyX7_ok, nmX7, Or.inl (m2 (List.mem_of_getElem? (i := 332) (by decide +kernel)) (by decide +kernel)), rfl, rfl⟩
theorem fp_X7_74 : FP RX7 74 7 13 .int := ⟨RX7, TX7, 16, tyX7, rfl, by decide, wj_X7, by decide, rfl, tyX7_ok, nmX7, Or.inl (m2 (List.mem_of_getElem? (i := 333) (by decide +kernel)) (by decide +kernel)), rfl, rfl⟩
theorem fp_X7_78 : FP RX7 78 7 14 .int := ⟨RX7, TX7, 16, tyX7, rfl, by decide, wj_X7, by decide, rfl, tyX7_ok, nmX7, Or.inl (m2 (List.mem_of_getElem? (i := 334) (by decide +kernel)) (by decide +kernel)), rfl, rfl⟩
theorem fp_X7_81 : FP RX7 81 7 15 .int := ⟨RX7, TX7, 16, tyX7, rfl, by decide, wj_X7, by decide, rfl, tyX7_ok, nmX7, Or.inl (m2 (List.mem_of_getElem? (i := 335) (by decide +kernel)) (by decide +kernel)), rfl, rfl⟩
theorem fp_X8_127 : FP RX8 127 8 7 .int := ⟨RX8, TX8, 33, tyX8, rfl, by decide, wj_X8, by decide, rfl, tyX8_ok, nmX8, Or.inl (m2 (List.mem_of_getElem? (i := 851) (by decide +kernel)) (by decide +kernel)), rfl, rfl⟩
theorem fp_X8_133 : FP RX8 133 8 9 .int := ⟨RX8, TX8, 33, tyX8, rfl, by decide, wj_X8, by decide, rfl, tyX8_ok, nmX8, Or.inl (m2 (List.mem_of_getElem? (i := 853) (by decide +kernel)) (by decide +kernel)), rfl, rfl⟩
theorem fp_X8_169 : FP RX8 169 8 12 .int := ⟨RX8, TX8, 33, tyX8, rfl, by decide, wj_X8, by decide, rfl, tyX8_ok, nmX8, Or.inl (m2 (List.mem_of_getElem? (i := 856) (by decide +kernel)) (by decide +kernel)), rfl, rfl⟩
theorem fp_X8_174 : FP RX8 174 8 28 .boolean := ⟨RX8, TX8, 33, tyX8, rfl, by decide, wj_X8, by decide, rfl, tyX8_ok, nmX8, Or.inl (m2 (List.mem_of_getElem? (i := 872) (by decide +kernel)) (by decide +kernel)), rfl, rfl⟩
theorem fp_X8_178 : FP RX8 178 8 14 .int := ⟨RX8, TX8, 33, tyX8, rfl, by decide, wj_X8, by decide, rfl, tyX8_ok, nmX8, Or.inl (m2 (List.mem_of_getElem? (i := 858) (by decide +kernel)) (by decide +kernel)), rfl, rfl⟩
theorem fp_X8_191 : FP RX8 191 8 27 .int := ⟨RX8, TX8, 33, tyX8, rfl, by decide, wj_X8, by decide, rfl, tyX8_ok, nmX8, Or.inl (m2 (List.mem_of_getElem? (i := 871) (by decide +kernel)) (by decide +kernel)), rfl, rfl⟩
theorem fp_X8_261 : FP RX8 261 8 29 .int := ⟨RX8, TX8, 33, tyX8, rfl, by decide, wj_X8, by decide, rfl, tyX8_ok, nmX8, Or.inl (m2 (List.mem_of_getElem? (i := 873) (by decide +kernel)) (by decide +kernel)), rfl, rfl⟩
theorem fp_X8_306 : FP RX8 306 8 32 .int := ⟨RX8, TX8, 33, tyX8, rfl, by decide, wj_X8, by decide, rfl, tyX8_ok, nmX8, Or.inl (m2 (List.mem_of_getElem? (i := 876) (by decide +kernel)) (by decide +kernel)), rfl, rfl⟩
theorem fp_X8_89 : FP RX8 89 8 4 .int := ⟨RX8, TX8, 33, tyX8, rfl, by decide, wj_X8, by decide, rfl, tyX8_ok, nmX8, Or.inl (m2 (List.mem_of_getElem? (i := 848) (by decide +kernel)) (by decide +kernel)), rfl, rfl⟩
theorem qm_X0_leanBehind : (∃ (T : u_T) (N : Nat), vwCl[0]? = some (yX0_leanBehind.cls, T, N)) ∧ 0 < 9 ∧ Cond.instanceMethod yX0_leanBehind ∈ tb2 ∧ Cond.selects yX0_leanBehind.cls yX0_leanBehind yX0_leanBehind ∈ tb2 ∧ Cond.initialized yX0_leanBehind.cls ∈ tb2 ∧ Cond.code yX0_leanBehind cX0_leanBehind 4 (some .int) ∈ tb2 ∧ (yX0_leanBehind.cls ≠ "java/lang/invoke/MethodHandle" ∧ yX0_leanBehind.cls ≠ "java/lang/invoke/VarHandle" ∧ (parseMethodDescriptor yX0_leanBehind.desc).map (fun d => d.parameters.length) = some 2) ∧ 4 ≤ 21 := ⟨⟨TX0, 4, rfl⟩, by decide, m2 (List.mem_of_getElem? (i := 586) (by decide +kernel)) (by decide +kernel), m2 (List.mem_of_getElem? (i := 587) (by decide +kernel)) (by decide +kernel), m2 (List.mem_of_getElem? (i := 81) (by decide +kernel)) (by decide +kernel), m2 (List.mem_of_getElem? (i := 588) (by decide +kernel)) (by decide +kernel), ⟨by decide +kernel, by decide +kernel, by decide +kernel⟩, by decide⟩
theorem qm_X0_markOfPlaces : (∃ (T : u_T) (N : Nat), vwCl[0]? = some (yX0_markOfPlaces.cls, T, N)) ∧ 0 < 9 ∧ Cond.instanceMethod yX0_markOfPlaces ∈ tb2 ∧ Cond.selects yX0_markOfPlaces.cls yX0_markOfPlaces yX0_markOfPlaces ∈ tb2 ∧ Cond.initialized yX0_markOfPlaces.cls ∈ tb2 ∧ Cond.code yX0_markOfPlaces cX0_markOfPlaces 6 (some .long) ∈ tb2 ∧ (yX0_markOfPlaces.cls ≠ "java/lang/invoke/MethodHandle" ∧ yX0_markOfPlaces.cls ≠ "java/lang/invoke/VarHandle" ∧ (parseMethodDescriptor yX0_markOfPlaces.desc).map (fun d => d.parameters.length) = some 2) ∧ 6 ≤ 21 := ⟨⟨TX0, 4, rfl⟩, by decide, m2 (List.mem_of_getElem? (i := 687) (by decide +kernel)) (by decide +kernel), m2 (List.mem_of_getElem? (i := 688) (by decide +kernel)) (by decide +kernel), m2 (List.mem_of_getElem? (i := 81) (by decide +kernel)) (by decide +kernel), m2 (List.mem_of_getElem? (i := 689) (by decide +kernel)) (by decide +kernel), ⟨by decide +kernel, by decide +kernel, by decide +kernel⟩, by decide⟩
theorem qm_X0_note : (∃ (T : u_T) (N : Nat), vwCl[0]? = some (yX0_note.cls, T, N)) ∧ 0 < 9 ∧ Cond.instanceMethod yX0_note ∈ tb2 ∧ Cond.selects yX0_note.cls yX0_note yX0_note ∈ tb2 ∧ Cond.initialized yX0_note.cls ∈ tb2 ∧ Cond.code yX0_note cX0_note 7 none ∈ tb2 ∧ (yX0_note.cls ≠ "java/lang/invoke/MethodHandle" ∧ yX0_note.cls ≠ "java/lang/invoke/VarHandle" ∧ (parseMethodDescriptor yX0_note.desc).map (fun d => d.parameters.length) = some 5) ∧ 7 ≤ 21 := ⟨⟨TX0, 4, rfl⟩, by decide, m2 (List.mem_of_getElem? (i := 565) (by decide +kernel)) (by decide +kernel), m2 (List.mem_of_getElem? (i := 566) (by decide +kernel)) (by decide +kernel), m2 (List.mem_of_getElem? (i := 81) (by decide +kernel)) (by decide +kernel), m2 (List.mem_of_getElem? (i := 567) (by decide +kernel)) (by decide +kernel), ⟨by decide +kernel, by decide +kernel, by decide +kernel⟩, by decide⟩
theorem qm_X0_noteSway : (∃ (T : u_T) (N : Nat), vwCl[0]? = some (yX0_noteSway.cls, T, N)) ∧ 0 < 9 ∧ Cond.instanceMethod yX0_noteSway ∈ tb2 ∧ Cond.selects yX0_noteSway.cls yX0_noteSway yX0_noteSway ∈ tb2 ∧ Cond.initialized yX0_noteSway.cls ∈ tb2 ∧ Cond.code yX0_noteSway cX0_noteSway 3 none ∈ tb2 ∧ (yX0_noteSway.cls ≠ "java/lang/invoke/MethodHandle" ∧ yX0_noteSway.cls ≠ "java/lang/invoke/VarHandle" ∧ (parseMethodDescriptor yX0_noteSway.desc).map (fun d => d.parameters.length) = some 2) ∧ 3 ≤ 21 := ⟨⟨TX0, 4, rfl⟩, by decide, m2 (List.mem_of_getElem? (i := 560) (by decide +kernel)) (by decide +kernel), m2 (List.mem_of_getElem? (i := 561) (by decide +kernel)) (by decide +kernel), m2 (List.mem_of_getElem? (i := 81) (by decide +kernel)) (by decide +kernel), m2 (List.mem_of_getElem? (i := 562) (by decide +kernel)) (by decide +kernel), ⟨by decide +kernel, by decide +kernel, by decide +kernel⟩, by decide⟩
theorem qm_X0_placeBehind : (∃ (T : u_T) (N : Nat), vwCl[0]? = some (yX0_placeBehind.cls, T, N)) ∧ 0 < 9 ∧ Cond.instanceMethod yX0_placeBehind ∈ tb2 ∧ Cond.selects yX0_placeBehind.cls yX0_placeBehind yX0_placeBehind ∈ tb2 ∧ Cond.initialized yX0_placeBehind.cls ∈ tb2 ∧ Cond.code yX0_placeBehind cX0_placeBehind 4 (some .int) ∈ tb2 ∧ (yX0_placeBehind.cls ≠ "java/lang/invoke/MethodHandle" ∧ yX0_placeBehind.cls ≠ "java/lang/invoke/VarHandle" ∧ (parseMethodDescriptor yX0_placeBehind.desc).map (fun d => d.parameters.length) = some 2) ∧ 4 ≤ 21 := ⟨⟨TX0, 4, rfl⟩, by decide, m2 (List.mem_of_getElem? (i := 577) (by decide +kernel)) (by decide +kernel), m2 (List.mem_of_getElem? (i := 578) (by decide +kernel)) (by decide +kernel), m2 (List.mem_of_getElem? (i := 81) (by decide +kernel)) (by decide +kernel), m2 (List.mem_of_getElem? (i := 579) (by decide +kernel)) (by decide +kernel), ⟨by decide +kernel, by decide +kernel, by decide +kernel⟩, by decide⟩
theorem qm_X0_stateBehind : (∃ (T : u_T) (N : Nat), vwCl[0]? = some (yX0_stateBehind.cls, T, N)) ∧ 0 < 9 ∧ Cond.instanceMethod yX0_stateBehind ∈ tb2 ∧ Cond.selects yX0_stateBehind.cls yX0_stateBehind yX0_stateBehind ∈ tb2 ∧ Cond.initialized yX0_stateBehind.cls ∈ tb2 ∧ Cond.code yX0_stateBehind cX0_stateBehind 4 (some .int) ∈ tb2 ∧ (yX0_stateBehind.cls ≠ "java/lang/invoke/MethodHandle" ∧ yX0_stateBehind.cls ≠ "java/lang/invoke/VarHandle" ∧ (parseMethodDescriptor yX0_stateBehind.desc).map (fun d => d.parameters.length) = some 2) ∧ 4 ≤ 21 := ⟨⟨TX0, 4, rfl⟩, by decide, m2 (List.mem_of_getElem? (i := 573) (by decide +kernel)) (by decide +kernel), m2 (List.mem_of_getElem? (i := 574) (by decide +kernel)) (by decide +kernel), m2 (List.mem_of_getElem? (i := 81) (by decide +kernel)) (by decide +kernel), m2 (List.mem_of_getElem? (i := 575) (by decide +kernel)) (by decide +kernel), ⟨by decide +kernel, by decide +kernel, by decide +kernel⟩, by decide⟩
theorem qm_X1_fitted : (∃ (T : u_T) (N : Nat), vwCl[1]? = some (yX1_fitted.cls, T, N)) ∧ 1 < 9 ∧ Cond.instanceMethod yX1_fitted ∈ tb2 ∧ Cond.selects yX1_fitted.cls yX1_fitted yX1_fitted ∈ tb2 ∧ Cond.initialized yX1_fitted.cls ∈ tb2 ∧ Cond.code yX1_fitted cX1_fitted 2 (some .int) ∈ tb2 ∧ (yX1_fitted.cls ≠ "java/lang/invoke/MethodHandle" ∧ yX1_fitted.cls ≠ "java/lang/invoke/VarHandle" ∧ (parseMethodDescriptor yX1_fitted.desc).map (fun d => d.parameters.length) = some 1) ∧ 2 ≤ 21 := ⟨⟨TX1, 4, rfl⟩, by decide, m2 (List.mem_of_getElem? (i := 762) (by decide +kernel)) (by decide +kernel), m2 (List.mem_of_getElem? (i := 26) (by decide +kernel)) (by decide +kernel), m2 (List.mem_of_getElem? (i := 82) (by decide +kernel)) (by decide +kernel), m2 (List.mem_of_getElem? (i := 763) (by decide +kernel)) (by decide +kernel), ⟨by decide +kernel, by decide +kernel, by decide +kernel⟩, by decide⟩
theorem qm_X1_hasRun : (∃ (T : u_T) (N : Nat), vwCl[1]? = some (yX1_hasRun.cls, T, N)) ∧ 1 < 9 ∧ Cond.instanceMethod yX1_hasRun ∈ tb2 ∧ Cond.selects yX1_hasRun.cls yX1_hasRun yX1_hasRun ∈ tb2 ∧ Cond.initialized yX1_hasRun.cls ∈ tb2 ∧ Cond.code yX1_hasRun cX1_hasRun 3 (some .boolean) ∈ tb2 ∧ (yX1_hasRun.cls ≠ "java/lang/invoke/MethodHandle" ∧ yX1_hasRun.cls ≠ "java/lang/invoke/VarHandle" ∧ (parseMethodDescriptor yX1_hasRun.desc).map (fun d => d.parameters.length) = some 2) ∧ 3 ≤ 21 := ⟨⟨TX1, 4, rfl⟩, by decide, m2 (List.mem_of_getElem? (i := 773) (by decide +kernel)) (by decide +kernel), m2 (List.mem_of_getElem? (i := 774) (by decide +kernel)) (by decide +kernel), m2 (List.mem_of_getElem? (i := 82) (by decide +kernel)) (by decide +kernel), m2 (List.mem_of_getElem? (i := 775) (by decide +kernel)) (by decide +kernel), ⟨by decide +kernel, by decide +kernel, by decide +kernel⟩, by decide⟩
theorem qm_X1_makeNew : (∃ (T : u_T) (N : Nat), vwCl[1]? = some (yX1_makeNew.cls, T, N)) ∧ 1 < 9 ∧ Cond.instanceMethod yX1_makeNew ∈ tb2 ∧ Cond.selects yX1_makeNew.cls yX1_makeNew yX1_makeNew ∈ tb2 ∧ Cond.initialized yX1_makeNew.cls ∈ tb2 ∧ Cond.code yX1_makeNew cX1_makeNew 3 none ∈ tb2 ∧ (yX1_makeNew.cls ≠ "java/lang/invoke/MethodHandle" ∧ yX1_makeNew.cls ≠ "java/lang/invoke/VarHandle" ∧ (parseMethodDescriptor yX1_makeNew.desc).map (fun d => d.parameters.length) = some 2) ∧ 3 ≤ 21 := ⟨⟨TX1, 4, rfl⟩, by decide, m2 (List.mem_of_getElem? (i := 739) (by decide +kernel)) (by decide +kernel), m2 (List.mem_of_getElem? (i := 740) (by decide +kernel)) (by decide +kernel), m2 (List.mem_of_getElem? (i := 82) (by decide +kernel)) (by decide +kernel), m2 (List.mem_of_getElem? (i := 741) (by decide +kernel)) (by decide +kernel), ⟨by decide +kernel, by decide +kernel, by decide +kernel⟩, by decide⟩
theorem qm_X1_put : (∃ (T : u_T) (N : Nat), vwCl[1]? = some (yX1_put.cls, T, N)) ∧ 1 < 9 ∧ Cond.instanceMethod yX1_put ∈ tb2 ∧ Cond.selects yX1_put.cls yX1_put yX1_put ∈ tb2 ∧ Cond.initialized yX1_put.cls ∈ tb2 ∧ Cond.code yX1_put cX1_put 3 none ∈ tb2 ∧ (yX1_put.cls ≠ "java/lang/invoke/MethodHandle" ∧ yX1_put.cls ≠ "java/lang/invoke/VarHandle" ∧ (parseMethodDescriptor yX1_put.desc).map (fun d => d.parameters.length) = some 2) ∧ 3 ≤ 21 := ⟨⟨TX1, 4, rfl⟩, by decide, m2 (List.mem_of_getElem? (i := 757) (by decide +kernel)) (by decide +kernel), m2 (List.mem_of_getElem? (i := 758) (by decide +kernel)) (by decide +kernel), m2 (List.mem_of_getElem? (i := 82) (by decide +kernel)) (by decide +kernel), m2 (List.mem_of_getElem? (i := 759) (by decide +kernel)) (by decide +kernel), ⟨by decide +kernel, by decide +kernel, by decide +kernel⟩, by decide⟩
theorem qm_X2_bitsOfOver : (∃ (T : u_T) (N : Nat), vwCl[2]? = some (yX2_bitsOfOver.cls, T, N)) ∧ 2 < 9 ∧ Cond.instanceMethod yX2_bitsOfOver ∈ tb2 ∧ Cond.selects yX2_bitsOfOver.cls yX2_bitsOfOver yX2_bitsOfOver ∈ tb2 ∧ Cond.initialized yX2_bitsOfOver.cls ∈ tb2 ∧ Cond.code yX2_bitsOfOver cX2_bitsOfOver 4 (some .int) ∈ tb2 ∧ (yX2_bitsOfOver.cls ≠ "java/lang/invoke/MethodHandle" ∧ yX2_bitsOfOver.cls ≠ "java/lang/invoke/VarHandle" ∧ (parseMethodDescriptor yX2_bitsOfOver.desc).map (fun d => d.parameters.length) = some 1) ∧ 4 ≤ 21 := ⟨⟨TX2, 15, rfl⟩, by decide, m2 (List.mem_of_getElem? (i := 718) (by decide +kernel)) (by decide +kernel), m2 (List.mem_of_getElem? (i := 719) (by decide +kernel)) (by decide +kernel), m2 (List.mem_of_getElem? (i := 79) (by decide +kernel)) (by decide +kernel), m2 (List.mem_of_getElem? (i := 720) (by decide +kernel)) (by decide +kernel), ⟨by decide +kernel, by decide +kernel, by decide +kernel⟩, by decide⟩
theorem qm_X2_dropPoles : (∃ (T : u_T) (N : Nat), vwCl[2]? = some (yX2_dropPoles.cls, T, N)) ∧ 2 < 9 ∧ Cond.instanceMethod yX2_dropPoles ∈ tb2 ∧ Cond.selects yX2_dropPoles.cls yX2_dropPoles yX2_dropPoles ∈ tb2 ∧ Cond.initialized yX2_dropPoles.cls ∈ tb2 ∧ Cond.code yX2_dropPoles cX2_dropPoles 3 none ∈ tb2 ∧ (yX2_dropPoles.cls ≠ "java/lang/invoke/MethodHandle" ∧ yX2_dropPoles.cls ≠ "java/lang/invoke/VarHandle" ∧ (parseMethodDescriptor yX2_dropPoles.desc).map (fun d => d.parameters.length) = some 1) ∧ 3 ≤ 21 := ⟨⟨TX2, 15, rfl⟩, by decide, m2 (List.mem_of_getElem? (i := 533) (by decide +kernel)) (by decide +kernel), m2 (List.mem_of_getElem? (i := 9) (by decide +kernel)) (by decide +kernel), m2 (List.mem_of_getElem? (i := 79) (by decide +kernel)) (by decide +kernel), m2 (List.mem_of_getElem? (i := 534) (by decide +kernel)) (by decide +kernel), ⟨by decide +kernel, by decide +kernel, by decide +kernel⟩, by decide⟩
theorem qm_X2_noteBeat : (∃ (T : u_T) (N : Nat), vwCl[2]? = some (yX2_noteBeat.cls, T, N)) ∧ 2 < 9 ∧ Cond.instanceMethod yX2_noteBeat ∈ tb2 ∧ Cond.selects yX2_noteBeat.cls yX2_noteBeat yX2_noteBeat ∈ tb2 ∧ Cond.initialized yX2_noteBeat.cls ∈ tb2 ∧ Cond.code yX2_noteBeat cX2_noteBeat 5 none ∈ tb2 ∧ (yX2_noteBeat.cls ≠ "java/lang/invoke/MethodHandle" ∧ yX2_noteBeat.cls ≠ "java/lang/invoke/VarHandle" ∧ (parseMethodDescriptor yX2_noteBeat.desc).map (fun d => d.parameters.length) = some 3) ∧ 5 ≤ 21 := ⟨⟨TX2, 15, rfl⟩, by decide, m2 (List.mem_of_getElem? (i := 557) (by decide +kernel)) (by decide +kernel), m2 (List.mem_of_getElem? (i := 13) (by decide +kernel)) (by decide +kernel), m2 (List.mem_of_getElem? (i := 79) (by decide +kernel)) (by decide +kernel), m2 (List.mem_of_getElem? (i := 558) (by decide +kernel)) (by decide +kernel), ⟨by decide +kernel, by decide +kernel, by decide +kernel⟩, by decide⟩
theorem qm_X2_perform : (∃ (T : u_T) (N : Nat), vwCl[2]? = some (yX2_perform.cls, T, N)) ∧ 2 < 9 ∧ Cond.instanceMethod yX2_perform ∈ tb2 ∧ Cond.selects yX2_perform.cls yX2_perform yX2_perform ∈ tb2 ∧ Cond.initialized yX2_perform.cls ∈ tb2 ∧ Cond.code yX2_perform cX2_perform 9 none ∈ tb2 ∧ (yX2_perform.cls ≠ "java/lang/invoke/MethodHandle" ∧ yX2_perform.cls ≠ "java/lang/invoke/VarHandle" ∧ (parseMethodDescriptor yX2_perform.desc).map (fun d => d.parameters.length) = some 5) ∧ 9 ≤ 21 := ⟨⟨TX2, 15, rfl⟩, by decide, m2 (List.mem_of_getElem? (i := 538) (by decide +kernel)) (by decide +kernel), m2 (List.mem_of_getElem? (i := 10) (by decide +kernel)) (by decide +kernel), m2 (List.mem_of_getElem? (i := 79) (by decide +kernel)) (by decide +kernel), m2 (List.mem_of_getElem? (i := 539) (by decide +kernel)) (by decide +kernel), ⟨by decide +kernel, by decide +kernel, by decide +kernel⟩, by decide⟩
theorem qm_X2_play : (∃ (T : u_T) (N : Nat), vwCl[2]? = some (yX2_play.cls, T, N)) ∧ 2 < 9 ∧ Cond.instanceMethod yX2_play ∈ tb2 ∧ Cond.selects yX2_play.cls yX2_play yX2_play ∈ tb2 ∧ Cond.initialized yX2_play.cls ∈ tb2 ∧ Cond.code yX2_play cX2_play 11 none ∈ tb2 ∧ (yX2_play.cls ≠ "java/lang/invoke/MethodHandle" ∧ yX2_play.cls ≠ "java/lang/invoke/VarHandle" ∧ (parseMethodDescriptor yX2_play.desc).map (fun d => d.parameters.length) = some 4) ∧ 11 ≤ 21 := ⟨⟨TX2, 15, rfl⟩, by decide, m2 (List.mem_of_getElem? (i := 506) (by decide +kernel)) (by decide +kernel), m2 (List.mem_of_getElem? (i := 507) (by decide +kernel)) (by decide +kernel), m2 (List.mem_of_getElem? (i := 79) (by decide +kernel)) (by decide +kernel), m2 (List.mem_of_getElem? (i := 508) (by decide +kernel)) (by decide +kernel), ⟨by decide +kernel, by decide +kernel, by decide +kernel⟩, by decide⟩
theorem qm_X2_playBeat : (∃ (T : u_T) (N : Nat), vwCl[2]? = some (yX2_playBeat.cls, T, N)) ∧ 2 < 9 ∧ Cond.instanceMethod yX2_playBeat ∈ tb2 ∧ Cond.selects yX2_playBeat.cls yX2_playBeat yX2_playBeat ∈ tb2 ∧ Cond.initialized yX2_playBeat.cls ∈ tb2 ∧ Cond.code yX2_playBeat cX2_playBeat 11 none ∈ tb2 ∧ (yX2_playBeat.cls ≠ "java/lang/invoke/MethodHandle" ∧ yX2_playBeat.cls ≠ "java/lang/invoke/VarHandle" ∧ (parseMethodDescriptor yX2_playBeat.desc).map (fun d => d.parameters.length) = some 4) ∧ 11 ≤ 21 := ⟨⟨TX2, 15, rfl⟩, by decide, m2 (List.mem_of_getElem? (i := 528) (by decide +kernel)) (by decide +kernel), m2 (List.mem_of_getElem? (i := 8) (by decide +kernel)) (by decide +kernel), m2 (List.mem_of_getElem? (i := 79) (by decide +kernel)) (by decide +kernel), m2 (List.mem_of_getElem? (i := 529) (by decide +kernel)) (by decide +kernel), ⟨by decide +kernel, by decide +kernel, by decide +kernel⟩, by decide⟩
theorem qm_X2_prepare : (∃ (T : u_T) (N : Nat), vwCl[2]? = some (yX2_prepare.cls, T, N)) ∧ 2 < 9 ∧ Cond.instanceMethod yX2_prepare ∈ tb2 ∧ Cond.selects yX2_prepare.cls yX2_prepare yX2_prepare ∈ tb2 ∧ Cond.initialized yX2_prepare.cls ∈ tb2 ∧ Cond.code yX2_prepare cX2_prepare 4 none ∈ tb2 ∧ (yX2_prepare.cls ≠ "java/lang/invoke/MethodHandle" ∧ yX2_prepare.cls ≠ "java/lang/invoke/VarHandle" ∧ (parseMethodDescriptor yX2_prepare.desc).map (fun d => d.parameters.length) = some 2) ∧ 4 ≤ 21 := ⟨⟨TX2, 15, rfl⟩, by decide, m2 (List.mem_of_getElem? (i := 512) (by decide +kernel)) (by decide +kernel), m2 (List.mem_of_getElem? (i := 6) (by decide +kernel)) (by decide +kernel), m2 (List.mem_of_getElem? (i := 79) (by decide +kernel)) (by decide +kernel), m2 (List.mem_of_getElem? (i := 513) (by decide +kernel)) (by decide +kernel), ⟨by decide +kernel, by decide +kernel, by decide +kernel⟩, by decide⟩
theorem qm_X2_settle : (∃ (T : u_T) (N : Nat), vwCl[2]? = some (yX2_settle.cls, T, N)) ∧ 2 < 9 ∧ Cond.instanceMethod yX2_settle ∈ tb2 ∧ Cond.selects yX2_settle.cls yX2_settle yX2_settle ∈ tb2 ∧ Cond.initialized yX2_settle.cls ∈ tb2 ∧ Cond.code yX2_settle cX2_settle 4 none ∈ tb2 ∧ (yX2_settle.cls ≠ "java/lang/invoke/MethodHandle" ∧ yX2_settle.cls ≠ "java/lang/invoke/VarHandle" ∧ (parseMethodDescriptor yX2_settle.desc).map (fun d => d.parameters.length) = some 3) ∧ 4 ≤ 21 := ⟨⟨TX2, 15, rfl⟩, by decide, m2 (List.mem_of_getElem? (i := 548) (by decide +kernel)) (by decide +kernel), m2 (List.mem_of_getElem? (i := 11) (by decide +kernel)) (by decide +kernel), m2 (List.mem_of_getElem? (i := 79) (by decide +kernel)) (by decide +kernel), m2 (List.mem_of_getElem? (i := 549) (by decide +kernel)) (by decide +kernel), ⟨by decide +kernel, by decide +kernel, by decide +kernel⟩, by decide⟩
theorem qm_X2_startNext : (∃ (T : u_T) (N : Nat), vwCl[2]? = some (yX2_startNext.cls, T, N)) ∧ 2 < 9 ∧ Cond.instanceMethod yX2_startNext ∈ tb2 ∧ Cond.selects yX2_startNext.cls yX2_startNext yX2_startNext ∈ tb2 ∧ Cond.initialized yX2_startNext.cls ∈ tb2 ∧ Cond.code yX2_startNext cX2_startNext 4 none ∈ tb2 ∧ (yX2_startNext.cls ≠ "java/lang/invoke/MethodHandle" ∧ yX2_startNext.cls ≠ "java/lang/invoke/VarHandle" ∧ (parseMethodDescriptor yX2_startNext.desc).map (fun d => d.parameters.length) = some 2) ∧ 4 ≤ 21 := ⟨⟨TX2, 15, rfl⟩, by decide, m2 (List.mem_of_getElem? (i := 553) (by decide +kernel)) (by decide +kernel), m2 (List.mem_of_getElem? (i := 12) (by decide +kernel)) (by decide +kernel), m2 (List.mem_of_getElem? (i := 79) (by decide +kernel)) (by decide +kernel), m2 (List.mem_of_getElem? (i := 554) (by decide +kernel)) (by decide +kernel), ⟨by decide +kernel, by decide +kernel, by decide +kernel⟩, by decide⟩
theorem qm_X3_add : (∃ (T : u_T) (N : Nat), vwCl[3]? = some (yX3_add.cls, T, N)) ∧ 3 < 9 ∧ Cond.instanceMethod yX3_add ∈ tb2 ∧ Cond.selects yX3_add.cls yX3_add yX3_add ∈ tb2 ∧ Cond.initialized yX3_add.cls ∈ tb2 ∧ Cond.code yX3_add cX3_add 4 none ∈ tb2 ∧ (yX3_add.cls ≠ "java/lang/invoke/MethodHandle" ∧ yX3_add.cls ≠ "java/lang/invoke/VarHandle" ∧ (parseMethodDescriptor yX3_add.desc).map (fun d => d.parameters.length) = some 3) ∧ 4 ≤ 21 := ⟨⟨TX3, 4, rfl⟩, by decide, m2 (List.mem_of_getElem? (i := 658) (by decide +kernel)) (by decide +kernel), m2 (List.mem_of_getElem? (i := 659) (by decide +kernel)) (by decide +kernel), m2 (List.mem_of_getElem? (i := 78) (by decide +kernel)) (by decide +kernel), m2 (List.mem_of_getElem? (i := 660) (by decide +kernel)) (by decide +kernel), ⟨by decide +kernel, by decide +kernel, by decide +kernel⟩, by decide⟩
theorem qm_X3_fit : (∃ (T : u_T) (N : Nat), vwCl[3]? = some (yX3_fit.cls, T, N)) ∧ 3 < 9 ∧ Cond.instanceMethod yX3_fit ∈ tb2 ∧ Cond.selects yX3_fit.cls yX3_fit yX3_fit ∈ tb2 ∧ Cond.initialized yX3_fit.cls ∈ tb2 ∧ Cond.code yX3_fit cX3_fit 4 (some .boolean) ∈ tb2 ∧ (yX3_fit.cls ≠ "java/lang/invoke/MethodHandle" ∧ yX3_fit.cls ≠ "java/lang/invoke/VarHandle" ∧ (parseMethodDescriptor yX3_fit.desc).map (fun d => d.parameters.length) = some 2) ∧ 4 ≤ 21 := ⟨⟨TX3, 4, rfl⟩, by decide, m2 (List.mem_of_getElem? (i := 670) (by decide +kernel)) (by decide +kernel), m2 (List.mem_of_getElem? (i := 671) (by decide +kernel)) (by decide +kernel), m2 (List.mem_of_getElem? (i := 78) (by decide +kernel)) (by decide +kernel), m2 (List.mem_of_getElem? (i := 672) (by decide +kernel)) (by decide +kernel), ⟨by decide +kernel, by decide +kernel, by decide +kernel⟩, by decide⟩
theorem qm_X3_hasRoom : (∃ (T : u_T) (N : Nat), vwCl[3]? = some (yX3_hasRoom.cls, T, N)) ∧ 3 < 9 ∧ Cond.instanceMethod yX3_hasRoom ∈ tb2 ∧ Cond.selects yX3_hasRoom.cls yX3_hasRoom yX3_hasRoom ∈ tb2 ∧ Cond.initialized yX3_hasRoom.cls ∈ tb2 ∧ Cond.code yX3_hasRoom cX3_hasRoom 1 (some .boolean) ∈ tb2 ∧ (yX3_hasRoom.cls ≠ "java/lang/invoke/MethodHandle" ∧ yX3_hasRoom.cls ≠ "java/lang/invoke/VarHandle" ∧ (parseMethodDescriptor yX3_hasRoom.desc).map (fun d => d.parameters.length) = some 0) ∧ 1 ≤ 21 := ⟨⟨TX3, 4, rfl⟩, by decide, m2 (List.mem_of_getElem? (i := 654) (by decide +kernel)) (by decide +kernel), m2 (List.mem_of_getElem? (i := 655) (by decide +kernel)) (by decide +kernel), m2 (List.mem_of_getElem? (i := 78) (by decide +kernel)) (by decide +kernel), m2 (List.mem_of_getElem? (i := 656) (by decide +kernel)) (by decide +kernel), ⟨by decide +kernel, by decide +kernel, by decide +kernel⟩, by decide⟩
theorem qm_X4_add : (∃ (T : u_T) (N : Nat), vwCl[4]? = some (yX4_add.cls, T, N)) ∧ 4 < 9 ∧ Cond.instanceMethod yX4_add ∈ tb2 ∧ Cond.selects yX4_add.cls yX4_add yX4_add ∈ tb2 ∧ Cond.initialized yX4_add.cls ∈ tb2 ∧ Cond.code yX4_add cX4_add 2 none ∈ tb2 ∧ (yX4_add.cls ≠ "java/lang/invoke/MethodHandle" ∧ yX4_add.cls ≠ "java/lang/invoke/VarHandle" ∧ (parseMethodDescriptor yX4_add.desc).map (fun d => d.parameters.length) = some 1) ∧ 2 ≤ 21 := ⟨⟨TX4, 2, rfl⟩, by decide, m2 (List.mem_of_getElem? (i := 385) (by decide +kernel)) (by decide +kernel), m2 (List.mem_of_getElem? (i := 386) (by decide +kernel)) (by decide +kernel), m2 (List.mem_of_getElem? (i := 75) (by decide +kernel)) (by decide +kernel), m2 (List.mem_of_getElem? (i := 387) (by decide +kernel)) (by decide +kernel), ⟨by decide +kernel, by decide +kernel, by decide +kernel⟩, by decide⟩
theorem qm_X4_byteAt : (∃ (T : u_T) (N : Nat), vwCl[4]? = some (yX4_byteAt.cls, T, N)) ∧ 4 < 9 ∧ Cond.instanceMethod yX4_byteAt ∈ tb2 ∧ Cond.selects yX4_byteAt.cls yX4_byteAt yX4_byteAt ∈ tb2 ∧ Cond.initialized yX4_byteAt.cls ∈ tb2 ∧ Cond.code yX4_byteAt cX4_byteAt 2 (some .int) ∈ tb2 ∧ (yX4_byteAt.cls ≠ "java/lang/invoke/MethodHandle" ∧ yX4_byteAt.cls ≠ "java/lang/invoke/VarHandle" ∧ (parseMethodDescriptor yX4_byteAt.desc).map (fun d => d.parameters.length) = some 1) ∧ 2 ≤ 21 := ⟨⟨TX4, 2, rfl⟩, by decide, m2 (List.mem_of_getElem? (i := 401) (by decide +kernel)) (by decide +kernel), m2 (List.mem_of_getElem? (i := 402) (by decide +kernel)) (by decide +kernel), m2 (List.mem_of_getElem? (i := 75) (by decide +kernel)) (by decide +kernel), m2 (List.mem_of_getElem? (i := 403) (by decide +kernel)) (by decide +kernel), ⟨by decide +kernel, by decide +kernel, by decide +kernel⟩, by decide⟩
theorem qm_X4_faultOfRoutine : (∃ (T : u_T) (N : Nat), vwCl[4]? = some (yX4_faultOfRoutine.cls, T, N)) ∧ 4 < 9 ∧ Cond.instanceMethod yX4_faultOfRoutine ∈ tb2 ∧ Cond.selects yX4_faultOfRoutine.cls yX4_faultOfRoutine yX4_faultOfRoutine ∈ tb2 ∧ Cond.initialized yX4_faultOfRoutine.cls ∈ tb2 ∧ Cond.code yX4_faultOfRoutine cX4_faultOfRoutine 2 (some .int) ∈ tb2 ∧ (yX4_faultOfRoutine.cls ≠ "java/lang/invoke/MethodHandle" ∧ yX4_faultOfRoutine.cls ≠ "java/lang/invoke/VarHandle" ∧ (parseMethodDescriptor yX4_faultOfRoutine.desc).map (fun d => d.parameters.length) = some 0) ∧ 2 ≤ 21 := ⟨⟨TX4, 2, rfl⟩, by decide, m2 (List.mem_of_getElem? (i := 421) (by decide +kernel)) (by decide +kernel), m2 (List.mem_of_getElem? (i := 422) (by decide +kernel)) (by decide +kernel), m2 (List.mem_of_getElem? (i := 75) (by decide +kernel)) (by decide +kernel), m2 (List.mem_of_getElem? (i := 423) (by decide +kernel)) (by decide +kernel), ⟨by decide +kernel, by decide +kernel, by decide +kernel⟩, by decide⟩
theorem qm_X4_faultOfWalkers : (∃ (T : u_T) (N : Nat), vwCl[4]? = some (yX4_faultOfWalkers.cls, T, N)) ∧ 4 < 9 ∧ Cond.instanceMethod yX4_faultOfWalkers ∈ tb2 ∧ Cond.selects yX4_faultOfWalkers.cls yX4_faultOfWalkers yX4_faultOfWalkers ∈ tb2 ∧ Cond.initialized yX4_faultOfWalkers.cls ∈ tb2 ∧ Cond.code yX4_faultOfWalkers cX4_faultOfWalkers 2 (some .int) ∈ tb2 ∧ (yX4_faultOfWalkers.cls ≠ "java/lang/invoke/MethodHandle" ∧ yX4_faultOfWalkers.cls ≠ "java/lang/invoke/VarHandle" ∧ (parseMethodDescriptor yX4_faultOfWalkers.desc).map (fun d => d.parameters.length) = some 0) ∧ 2 ≤ 21 := ⟨⟨TX4, 2, rfl⟩, by decide, m2 (List.mem_of_getElem? (i := 397) (by decide +kernel)) (by decide +kernel), m2 (List.mem_of_getElem? (i := 398) (by decide +kernel)) (by decide +kernel), m2 (List.mem_of_getElem? (i := 75) (by decide +kernel)) (by decide +kernel), m2 (List.mem_of_getElem? (i := 399) (by decide +kernel)) (by decide +kernel), ⟨by decide +kernel, by decide +kernel, by decide +kernel⟩, by decide⟩
theorem qm_X4_hasRoom : (∃ (T : u_T) (N : Nat), vwCl[4]? = some (yX4_hasRoom.cls, T, N)) ∧ 4 < 9 ∧ Cond.instanceMethod yX4_hasRoom ∈ tb2 ∧ Cond.selects yX4_hasRoom.cls yX4_hasRoom yX4_hasRoom ∈ tb2 ∧ Cond.initialized yX4_hasRoom.cls ∈ tb2 ∧ Cond.code yX4_hasRoom cX4_hasRoom 1 (some .boolean) ∈ tb2 ∧ (yX4_hasRoom.cls ≠ "java/lang/invoke/MethodHandle" ∧ yX4_hasRoom.cls ≠ "java/lang/invoke/VarHandle" ∧ (parseMethodDescriptor yX4_hasRoom.desc).map (fun d => d.parameters.length) = some 0) ∧ 1 ≤ 21 := ⟨⟨TX4, 2, rfl⟩, by decide, m2 (List.mem_of_getElem? (i := 381) (by decide +kernel)) (by decide +kernel), m2 (List.mem_of_getElem? (i := 382) (by decide +kernel)) (by decide +kernel), m2 (List.mem_of_getElem? (i := 75) (by decide +kernel)) (by decide +kernel), m2 (List.mem_of_getElem? (i := 383) (by decide +kernel)) (by decide +kernel), ⟨by decide +kernel, by decide +kernel, by decide +kernel⟩, by decide⟩
theorem qm_X5_addEvent : (∃ (T : u_T) (N : Nat), vwCl[5]? = some (yX5_addEvent.cls, T, N)) ∧ 5 < 9 ∧ Cond.instanceMethod yX5_addEvent ∈ tb2 ∧ Cond.selects yX5_addEvent.cls yX5_addEvent yX5_addEvent ∈ tb2 ∧ Cond.initialized yX5_addEvent.cls ∈ tb2 ∧ Cond.code yX5_addEvent cX5_addEvent 4 none ∈ tb2 ∧ (yX5_addEvent.cls ≠ "java/lang/invoke/MethodHandle" ∧ yX5_addEvent.cls ≠ "java/lang/invoke/VarHandle" ∧ (parseMethodDescriptor yX5_addEvent.desc).map (fun d => d.parameters.length) = some 3) ∧ 4 ≤ 21 := ⟨⟨TX5, 12, rfl⟩, by decide, m2 (List.mem_of_getElem? (i := 479) (by decide +kernel)) (by decide +kernel), m2 (List.mem_of_getElem? (i := 480) (by decide +kernel)) (by decide +kernel), m2 (List.mem_of_getElem? (i := 77) (by decide +kernel)) (by decide +kernel), m2 (List.mem_of_getElem? (i := 481) (by decide +kernel)) (by decide +kernel), ⟨by decide +kernel, by decide +kernel, by decide +kernel⟩, by decide⟩
theorem qm_X5_hasRoomForEvent : (∃ (T : u_T) (N : Nat), vwCl[5]? = some (yX5_hasRoomForEvent.cls, T, N)) ∧ 5 < 9 ∧ Cond.instanceMethod yX5_hasRoomForEvent ∈ tb2 ∧ Cond.selects yX5_hasRoomForEvent.cls yX5_hasRoomForEvent yX5_hasRoomForEvent ∈ tb2 ∧ Cond.initialized yX5_hasRoomForEvent.cls ∈ tb2 ∧ Cond.code yX5_hasRoomForEvent cX5_hasRoomForEvent 1 (some .boolean) ∈ tb2 ∧ (yX5_hasRoomForEvent.cls ≠ "java/lang/invoke/MethodHandle" ∧ yX5_hasRoomForEvent.cls ≠ "java/lang/invoke/VarHandle" ∧ (parseMethodDescriptor yX5_hasRoomForEvent.desc).map (fun d => d.parameters.length) = some 0) ∧ 1 ≤ 21 := ⟨⟨TX5, 12, rfl⟩, by decide, m2 (List.mem_of_getElem? (i := 475) (by decide +kernel)) (by decide +kernel), m2 (List.mem_of_getElem? (i := 476) (by decide +kernel)) (by decide +kernel), m2 (List.mem_of_getElem? (i := 77) (by decide +kernel)) (by decide +kernel), m2 (List.mem_of_getElem? (i := 477) (by decide +kernel)) (by decide +kernel), ⟨by decide +kernel, by decide +kernel, by decide +kernel⟩, by decide⟩
theorem qm_X5_takeRoutine : (∃ (T : u_T) (N : Nat), vwCl[5]? = some (yX5_takeRoutine.cls, T, N)) ∧ 5 < 9 ∧ Cond.instanceMethod yX5_takeRoutine ∈ tb2 ∧ Cond.selects yX5_takeRoutine.cls yX5_takeRoutine yX5_takeRoutine ∈ tb2 ∧ Cond.initialized yX5_takeRoutine.cls ∈ tb2 ∧ Cond.code yX5_takeRoutine cX5_takeRoutine 4 none ∈ tb2 ∧ (yX5_takeRoutine.cls ≠ "java/lang/invoke/MethodHandle" ∧ yX5_takeRoutine.cls ≠ "java/lang/invoke/VarHandle" ∧ (parseMethodDescriptor yX5_takeRoutine.desc).map (fun d => d.parameters.length) = some 1) ∧ 4 ≤ 21 := ⟨⟨TX5, 12, rfl⟩, by decide, m2 (List.mem_of_getElem? (i := 417) (by decide +kernel)) (by decide +kernel), m2 (List.mem_of_getElem? (i := 418) (by decide +kernel)) (by decide +kernel), m2 (List.mem_of_getElem? (i := 77) (by decide +kernel)) (by decide +kernel), m2 (List.mem_of_getElem? (i := 419) (by decide +kernel)) (by decide +kernel), ⟨by decide +kernel, by decide +kernel, by decide +kernel⟩, by decide⟩
theorem qm_X5_takeWalkers : (∃ (T : u_T) (N : Nat), vwCl[5]? = some (yX5_takeWalkers.cls, T, N)) ∧ 5 < 9 ∧ Cond.instanceMethod yX5_takeWalkers ∈ tb2 ∧ Cond.selects yX5_takeWalkers.cls yX5_takeWalkers yX5_takeWalkers ∈ tb2 ∧ Cond.initialized yX5_takeWalkers.cls ∈ tb2 ∧ Cond.code yX5_takeWalkers cX5_takeWalkers 4 none ∈ tb2 ∧ (yX5_takeWalkers.cls ≠ "java/lang/invoke/MethodHandle" ∧ yX5_takeWalkers.cls ≠ "java/lang/invoke/VarHandle" ∧ (parseMethodDescriptor yX5_takeWalkers.desc).map (fun d => d.parameters.length) = some 1) ∧ 4 ≤ 21 := ⟨⟨TX5, 12, rfl⟩, by decide, m2 (List.mem_of_getElem? (i := 393) (by decide +kernel)) (by decide +kernel), m2 (List.mem_of_getElem? (i := 394) (by decide +kernel)) (by decide +kernel), m2 (List.mem_of_getElem? (i := 77) (by decide +kernel)) (by decide +kernel), m2 (List.mem_of_getElem? (i := 395) (by decide +kernel)) (by decide +kernel), ⟨by decide +kernel, by decide +kernel, by decide +kernel⟩, by decide⟩
theorem qm_X6_add : (∃ (T : u_T) (N : Nat), vwCl[6]? = some (yX6_add.cls, T, N)) ∧ 6 < 9 ∧ Cond.instanceMethod yX6_add ∈ tb2 ∧ Cond.selects yX6_add.cls yX6_add yX6_add ∈ tb2 ∧ Cond.initialized yX6_add.cls ∈ tb2 ∧ Cond.code yX6_add cX6_add 4 none ∈ tb2 ∧ (yX6_add.cls ≠ "java/lang/invoke/MethodHandle" ∧ yX6_add.cls ≠ "java/lang/invoke/VarHandle" ∧ (parseMethodDescriptor yX6_add.desc).map (fun d => d.parameters.length) = some 3) ∧ 4 ≤ 21 := ⟨⟨TX6, 3, rfl⟩, by decide, m2 (List.mem_of_getElem? (i := 524) (by decide +kernel)) (by decide +kernel), m2 (List.mem_of_getElem? (i := 7) (by decide +kernel)) (by decide +kernel), m2 (List.mem_of_getElem? (i := 80) (by decide +kernel)) (by decide +kernel), m2 (List.mem_of_getElem? (i := 525) (by decide +kernel)) (by decide +kernel), ⟨by decide +kernel, by decide +kernel, by decide +kernel⟩, by decide⟩
theorem qm_X6_gather : (∃ (T : u_T) (N : Nat), vwCl[6]? = some (yX6_gather.cls, T, N)) ∧ 6 < 9 ∧ Cond.instanceMethod yX6_gather ∈ tb2 ∧ Cond.selects yX6_gather.cls yX6_gather yX6_gather ∈ tb2 ∧ Cond.initialized yX6_gather.cls ∈ tb2 ∧ Cond.code yX6_gather cX6_gather 4 none ∈ tb2 ∧ (yX6_gather.cls ≠ "java/lang/invoke/MethodHandle" ∧ yX6_gather.cls ≠ "java/lang/invoke/VarHandle" ∧ (parseMethodDescriptor yX6_gather.desc).map (fun d => d.parameters.length) = some 2) ∧ 4 ≤ 21 := ⟨⟨TX6, 3, rfl⟩, by decide, m2 (List.mem_of_getElem? (i := 515) (by decide +kernel)) (by decide +kernel), m2 (List.mem_of_getElem? (i := 516) (by decide +kernel)) (by decide +kernel), m2 (List.mem_of_getElem? (i := 80) (by decide +kernel)) (by decide +kernel), m2 (List.mem_of_getElem? (i := 517) (by decide +kernel)) (by decide +kernel), ⟨by decide +kernel, by decide +kernel, by decide +kernel⟩, by decide⟩
theorem qm_X7_act : (∃ (T : u_T) (N : Nat), vwCl[7]? = some (yX7_act.cls, T, N)) ∧ 7 < 9 ∧ Cond.instanceMethod yX7_act ∈ tb2 ∧ Cond.selects yX7_act.cls yX7_act yX7_act ∈ tb2 ∧ Cond.initialized yX7_act.cls ∈ tb2 ∧ Cond.code yX7_act cX7_act 3 (some .int) ∈ tb2 ∧ (yX7_act.cls ≠ "java/lang/invoke/MethodHandle" ∧ yX7_act.cls ≠ "java/lang/invoke/VarHandle" ∧ (parseMethodDescriptor yX7_act.desc).map (fun d => d.parameters.length) = some 2) ∧ 3 ≤ 21 := ⟨⟨TX7, 16, rfl⟩, by decide, m2 (List.mem_of_getElem? (i := 634) (by decide +kernel)) (by decide +kernel), m2 (List.mem_of_getElem? (i := 635) (by decide +kernel)) (by decide +kernel), m2 (List.mem_of_getElem? (i := 74) (by decide +kernel)) (by decide +kernel), m2 (List.mem_of_getElem? (i := 636) (by decide +kernel)) (by decide +kernel), ⟨by decide +kernel, by decide +kernel, by decide +kernel⟩, by decide⟩
theorem qm_X7_ask : (∃ (T : u_T) (N : Nat), vwCl[7]? = some (yX7_ask.cls, T, N)) ∧ 7 < 9 ∧ Cond.instanceMethod yX7_ask ∈ tb2 ∧ Cond.selects yX7_ask.cls yX7_ask yX7_ask ∈ tb2 ∧ Cond.initialized yX7_ask.cls ∈ tb2 ∧ Cond.code yX7_ask cX7_ask 7 (some .int) ∈ tb2 ∧ (yX7_ask.cls ≠ "java/lang/invoke/MethodHandle" ∧ yX7_ask.cls ≠ "java/lang/invoke/VarHandle" ∧ (parseMethodDescriptor yX7_ask.desc).map (fun d => d.parameters.length) = some 1) ∧ 7 ≤ 21 := ⟨⟨TX7, 16, rfl⟩, by decide, m2 (List.mem_of_getElem? (i := 696) (by decide +kernel)) (by decide +kernel), m2 (List.mem_of_getElem? (i := 697) (by decide +kernel)) (by decide +kernel), m2 (List.mem_of_getElem? (i := 74) (by decide +kernel)) (by decide +kernel), m2 (List.mem_of_getElem? (i := 698) (by decide +kernel)) (by decide +kernel), ⟨by decide +kernel, by decide +kernel, by decide +kernel⟩, by decide⟩
theorem qm_X7_at : (∃ (T : u_T) (N : Nat), vwCl[7]? = some (yX7_at.cls, T, N)) ∧ 7 < 9 ∧ Cond.instanceMethod yX7_at ∈ tb2 ∧ Cond.selects yX7_at.cls yX7_at yX7_at ∈ tb2 ∧ Cond.initialized yX7_at.cls ∈ tb2 ∧ Cond.code yX7_at cX7_at 5 (some .int) ∈ tb2 ∧ (yX7_at.cls ≠ "java/lang/invoke/MethodHandle" ∧ yX7_at.cls ≠ "java/lang/invoke/VarHandle" ∧ (parseMethodDescriptor yX7_at.desc).map (fun d => d.parameters.length) = some 3) ∧ 5 ≤ 21 := ⟨⟨TX7, 16, rfl⟩, by decide, m2 (List.mem_of_getElem? (i := 498) (by decide +kernel)) (by decide +kernel), m2 (List.mem_of_getElem? (i := 499) (by decide +kernel)) (by decide +kernel), m2 (List.mem_of_getElem? (i := 74) (by decide +kernel)) (by decide +kernel), m2 (List.mem_of_getElem? (i := 500) (by decide +kernel)) (by decide +kernel), ⟨by decide +kernel, by decide +kernel, by decide +kernel⟩, by decide⟩
theorem qm_X7_back : (∃ (T : u_T) (N : Nat), vwCl[7]? = some (yX7_back.cls, T, N)) ∧ 7 < 9 ∧ Cond.instanceMethod yX7_back ∈ tb2 ∧ Cond.selects yX7_back.cls yX7_back yX7_back ∈ tb2 ∧ Cond.initialized yX7_back.cls ∈ tb2 ∧ Cond.code yX7_back cX7_back 1 (some .int) ∈ tb2 ∧ (yX7_back.cls ≠ "java/lang/invoke/MethodHandle" ∧ yX7_back.cls ≠ "java/lang/invoke/VarHandle" ∧ (parseMethodDescriptor yX7_back.desc).map (fun d => d.parameters.length) = some 0) ∧ 1 ≤ 21 := ⟨⟨TX7, 16, rfl⟩, by decide, m2 (List.mem_of_getElem? (i := 483) (by decide +kernel)) (by decide +kernel), m2 (List.mem_of_getElem? (i := 484) (by decide +kernel)) (by decide +kernel), m2 (List.mem_of_getElem? (i := 74) (by decide +kernel)) (by decide +kernel), m2 (List.mem_of_getElem? (i := 485) (by decide +kernel)) (by decide +kernel), ⟨by decide +kernel, by decide +kernel, by decide +kernel⟩, by decide⟩
theorem qm_X7_bare : (∃ (T : u_T) (N : Nat), vwCl[7]? = some (yX7_bare.cls, T, N)) ∧ 7 < 9 ∧ Cond.instanceMethod yX7_bare ∈ tb2 ∧ Cond.selects yX7_bare.cls yX7_bare yX7_bare ∈ tb2 ∧ Cond.initialized yX7_bare.cls ∈ tb2 ∧ Cond.code yX7_bare cX7_bare 6 (some .int) ∈ tb2 ∧ (yX7_bare.cls ≠ "java/lang/invoke/MethodHandle" ∧ yX7_bare.cls ≠ "java/lang/invoke/VarHandle" ∧ (parseMethodDescriptor yX7_bare.desc).map (fun d => d.parameters.length) = some 0) ∧ 6 ≤ 21 := ⟨⟨TX7, 16, rfl⟩, by decide, m2 (List.mem_of_getElem? (i := 618) (by decide +kernel)) (by decide +kernel), m2 (List.mem_of_getElem? (i := 619) (by decide +kernel)) (by decide +kernel), m2 (List.mem_of_getElem? (i := 74) (by decide +kernel)) (by decide +kernel), m2 (List.mem_of_getElem? (i := 620) (by decide +kernel)) (by decide +kernel), ⟨by decide +kernel, by decide +kernel, by decide +kernel⟩, by decide⟩
theorem qm_X7_chance : (∃ (T : u_T) (N : Nat), vwCl[7]? = some (yX7_chance.cls, T, N)) ∧ 7 < 9 ∧ Cond.instanceMethod yX7_chance ∈ tb2 ∧ Cond.selects yX7_chance.cls yX7_chance yX7_chance ∈ tb2 ∧ Cond.initialized yX7_chance.cls ∈ tb2 ∧ Cond.code yX7_chance cX7_chance 9 (some .long) ∈ tb2 ∧ (yX7_chance.cls ≠ "java/lang/invoke/MethodHandle" ∧ yX7_chance.cls ≠ "java/lang/invoke/VarHandle" ∧ (parseMethodDescriptor yX7_chance.desc).map (fun d => d.parameters.length) = some 3) ∧ 9 ≤ 21 := ⟨⟨TX7, 16, rfl⟩, by decide, m2 (List.mem_of_getElem? (i := 709) (by decide +kernel)) (by decide +kernel), m2 (List.mem_of_getElem? (i := 710) (by decide +kernel)) (by decide +kernel), m2 (List.mem_of_getElem? (i := 74) (by decide +kernel)) (by decide +kernel), m2 (List.mem_of_getElem? (i := 711) (by decide +kernel)) (by decide +kernel), ⟨by decide +kernel, by decide +kernel, by decide +kernel⟩, by decide⟩
theorem qm_X7_chooseFor : (∃ (T : u_T) (N : Nat), vwCl[7]? = some (yX7_chooseFor.cls, T, N)) ∧ 7 < 9 ∧ Cond.instanceMethod yX7_chooseFor ∈ tb2 ∧ Cond.selects yX7_chooseFor.cls yX7_chooseFor yX7_chooseFor ∈ tb2 ∧ Cond.initialized yX7_chooseFor.cls ∈ tb2 ∧ Cond.code yX7_chooseFor cX7_chooseFor 6 none ∈ tb2 ∧ (yX7_chooseFor.cls ≠ "java/lang/invoke/MethodHandle" ∧ yX7_chooseFor.cls ≠ "java/lang/invoke/VarHandle" ∧ (parseMethodDescriptor yX7_chooseFor.desc).map (fun d => d.parameters.length) = some 3) ∧ 6 ≤ 21 := ⟨⟨TX7, 16, rfl⟩, by decide, m2 (List.mem_of_getElem? (i := 627) (by decide +kernel)) (by decide +kernel), m2 (List.mem_of_getElem? (i := 16) (by decide +kernel)) (by decide +kernel), m2 (List.mem_of_getElem? (i := 74) (by decide +kernel)) (by decide +kernel), m2 (List.mem_of_getElem? (i := 628) (by decide +kernel)) (by decide +kernel), ⟨by decide +kernel, by decide +kernel, by decide +kernel⟩, by decide⟩
theorem qm_X7_copy : (∃ (T : u_T) (N : Nat), vwCl[7]? = some (yX7_copy.cls, T, N)) ∧ 7 < 9 ∧ Cond.instanceMethod yX7_copy ∈ tb2 ∧ Cond.selects yX7_copy.cls yX7_copy yX7_copy ∈ tb2 ∧ Cond.initialized yX7_copy.cls ∈ tb2 ∧ Cond.code yX7_copy cX7_copy 8 (some .int) ∈ tb2 ∧ (yX7_copy.cls ≠ "java/lang/invoke/MethodHandle" ∧ yX7_copy.cls ≠ "java/lang/invoke/VarHandle" ∧ (parseMethodDescriptor yX7_copy.desc).map (fun d => d.parameters.length) = some 5) ∧ 8 ≤ 21 := ⟨⟨TX7, 16, rfl⟩, by decide, m2 (List.mem_of_getElem? (i := 769) (by decide +kernel)) (by decide +kernel), m2 (List.mem_of_getElem? (i := 770) (by decide +kernel)) (by decide +kernel), m2 (List.mem_of_getElem? (i := 74) (by decide +kernel)) (by decide +kernel), m2 (List.mem_of_getElem? (i := 771) (by decide +kernel)) (by decide +kernel), ⟨by decide +kernel, by decide +kernel, by decide +kernel⟩, by decide⟩
theorem qm_X7_count : (∃ (T : u_T) (N : Nat), vwCl[7]? = some (yX7_count.cls, T, N)) ∧ 7 < 9 ∧ Cond.instanceMethod yX7_count ∈ tb2 ∧ Cond.selects yX7_count.cls yX7_count yX7_count ∈ tb2 ∧ Cond.initialized yX7_count.cls ∈ tb2 ∧ Cond.code yX7_count cX7_count 2 (some .int) ∈ tb2 ∧ (yX7_count.cls ≠ "java/lang/invoke/MethodHandle" ∧ yX7_count.cls ≠ "java/lang/invoke/VarHandle" ∧ (parseMethodDescriptor yX7_count.desc).map (fun d => d.parameters.length) = some 1) ∧ 2 ≤ 21 := ⟨⟨TX7, 16, rfl⟩, by decide, m2 (List.mem_of_getElem? (i := 785) (by decide +kernel)) (by decide +kernel), m2 (List.mem_of_getElem? (i := 786) (by decide +kernel)) (by decide +kernel), m2 (List.mem_of_getElem? (i := 74) (by decide +kernel)) (by decide +kernel), m2 (List.mem_of_getElem? (i := 787) (by decide +kernel)) (by decide +kernel), ⟨by decide +kernel, by decide +kernel, by decide +kernel⟩, by decide⟩
theorem qm_X7_digest : (∃ (T : u_T) (N : Nat), vwCl[7]? = some (yX7_digest.cls, T, N)) ∧ 7 < 9 ∧ Cond.instanceMethod yX7_digest ∈ tb2 ∧ Cond.selects yX7_digest.cls yX7_digest yX7_digest ∈ tb2 ∧ Cond.initialized yX7_digest.cls ∈ tb2 ∧ Cond.code yX7_digest cX7_digest 4 (some .long) ∈ tb2 ∧ (yX7_digest.cls ≠ "java/lang/invoke/MethodHandle" ∧ yX7_digest.cls ≠ "java/lang/invoke/VarHandle" ∧ (parseMethodDescriptor yX7_digest.desc).map (fun d => d.parameters.length) = some 0) ∧ 4 ≤ 21 := ⟨⟨TX7, 16, rfl⟩, by decide, m2 (List.mem_of_getElem? (i := 789) (by decide +kernel)) (by decide +kernel), m2 (List.mem_of_getElem? (i := 790) (by decide +kernel)) (by decide +kernel), m2 (List.mem_of_getElem? (i := 74) (by decide +kernel)) (by decide +kernel), m2 (List.mem_of_getElem? (i := 791) (by decide +kernel)) (by decide +kernel), ⟨by decide +kernel, by decide +kernel, by decide +kernel⟩, by decide⟩
theorem qm_X7_ends : (∃ (T : u_T) (N : Nat), vwCl[7]? = some (yX7_ends.cls, T, N)) ∧ 7 < 9 ∧ Cond.instanceMethod yX7_ends ∈ tb2 ∧ Cond.selects yX7_ends.cls yX7_ends yX7_ends ∈ tb2 ∧ Cond.initialized yX7_ends.cls ∈ tb2 ∧ Cond.code yX7_ends cX7_ends 4 (some .int) ∈ tb2 ∧ (yX7_ends.cls ≠ "java/lang/invoke/MethodHandle" ∧ yX7_ends.cls ≠ "java/lang/invoke/VarHandle" ∧ (parseMethodDescriptor yX7_ends.desc).map (fun d => d.parameters.length) = some 2) ∧ 4 ≤ 21 := ⟨⟨TX7, 16, rfl⟩, by decide, m2 (List.mem_of_getElem? (i := 598) (by decide +kernel)) (by decide +kernel), m2 (List.mem_of_getElem? (i := 599) (by decide +kernel)) (by decide +kernel), m2 (List.mem_of_getElem? (i := 74) (by decide +kernel)) (by decide +kernel), m2 (List.mem_of_getElem? (i := 600) (by decide +kernel)) (by decide +kernel), ⟨by decide +kernel, by decide +kernel, by decide +kernel⟩, by decide⟩
theorem qm_X7_event : (∃ (T : u_T) (N : Nat), vwCl[7]? = some (yX7_event.cls, T, N)) ∧ 7 < 9 ∧ Cond.instanceMethod yX7_event ∈ tb2 ∧ Cond.selects yX7_event.cls yX7_event yX7_event ∈ tb2 ∧ Cond.initialized yX7_event.cls ∈ tb2 ∧ Cond.code yX7_event cX7_event 4 (some .int) ∈ tb2 ∧ (yX7_event.cls ≠ "java/lang/invoke/MethodHandle" ∧ yX7_event.cls ≠ "java/lang/invoke/VarHandle" ∧ (parseMethodDescriptor yX7_event.desc).map (fun d => d.parameters.length) = some 3) ∧ 4 ≤ 21 := ⟨⟨TX7, 16, rfl⟩, by decide, m2 (List.mem_of_getElem? (i := 466) (by decide +kernel)) (by decide +kernel), m2 (List.mem_of_getElem? (i := 467) (by decide +kernel)) (by decide +kernel), m2 (List.mem_of_getElem? (i := 74) (by decide +kernel)) (by decide +kernel), m2 (List.mem_of_getElem? (i := 468) (by decide +kernel)) (by decide +kernel), ⟨by decide +kernel, by decide +kernel, by decide +kernel⟩, by decide⟩
theorem qm_X7_farthestLeaning : (∃ (T : u_T) (N : Nat), vwCl[7]? = some (yX7_farthestLeaning.cls, T, N)) ∧ 7 < 9 ∧ Cond.instanceMethod yX7_farthestLeaning ∈ tb2 ∧ Cond.selects yX7_farthestLeaning.cls yX7_farthestLeaning yX7_farthestLeaning ∈ tb2 ∧ Cond.initialized yX7_farthestLeaning.cls ∈ tb2 ∧ Cond.code yX7_farthestLeaning cX7_farthestLeaning 5 (some .int) ∈ tb2 ∧ (yX7_farthestLeaning.cls ≠ "java/lang/invoke/MethodHandle" ∧ yX7_farthestLeaning.cls ≠ "java/lang/invoke/VarHandle" ∧ (parseMethodDescriptor yX7_farthestLeaning.desc).map (fun d => d.parameters.length) = some 0) ∧ 5 ≤ 21 := ⟨⟨TX7, 16, rfl⟩, by decide, m2 (List.mem_of_getElem? (i := 615) (by decide +kernel)) (by decide +kernel), m2 (List.mem_of_getElem? (i := 15) (by decide +kernel)) (by decide +kernel), m2 (List.mem_of_getElem? (i := 74) (by decide +kernel)) (by decide +kernel), m2 (List.mem_of_getElem? (i := 616) (by decide +kernel)) (by decide +kernel), ⟨by decide +kernel, by decide +kernel, by decide +kernel⟩, by decide⟩
theorem qm_X7_fault : (∃ (T : u_T) (N : Nat), vwCl[7]? = some (yX7_fault.cls, T, N)) ∧ 7 < 9 ∧ Cond.instanceMethod yX7_fault ∈ tb2 ∧ Cond.selects yX7_fault.cls yX7_fault yX7_fault ∈ tb2 ∧ Cond.initialized yX7_fault.cls ∈ tb2 ∧ Cond.code yX7_fault cX7_fault 2 (some .int) ∈ tb2 ∧ (yX7_fault.cls ≠ "java/lang/invoke/MethodHandle" ∧ yX7_fault.cls ≠ "java/lang/invoke/VarHandle" ∧ (parseMethodDescriptor yX7_fault.desc).map (fun d => d.parameters.length) = some 1) ∧ 2 ≤ 21 := ⟨⟨TX7, 16, rfl⟩, by decide, m2 (List.mem_of_getElem? (i := 441) (by decide +kernel)) (by decide +kernel), m2 (List.mem_of_getElem? (i := 442) (by decide +kernel)) (by decide +kernel), m2 (List.mem_of_getElem? (i := 74) (by decide +kernel)) (by decide +kernel), m2 (List.mem_of_getElem? (i := 443) (by decide +kernel)) (by decide +kernel), ⟨by decide +kernel, by decide +kernel, by decide +kernel⟩, by decide⟩
theorem qm_X7_firstOver : (∃ (T : u_T) (N : Nat), vwCl[7]? = some (yX7_firstOver.cls, T, N)) ∧ 7 < 9 ∧ Cond.instanceMethod yX7_firstOver ∈ tb2 ∧ Cond.selects yX7_firstOver.cls yX7_firstOver yX7_firstOver ∈ tb2 ∧ Cond.initialized yX7_firstOver.cls ∈ tb2 ∧ Cond.code yX7_firstOver cX7_firstOver 5 (some .int) ∈ tb2 ∧ (yX7_firstOver.cls ≠ "java/lang/invoke/MethodHandle" ∧ yX7_firstOver.cls ≠ "java/lang/invoke/VarHandle" ∧ (parseMethodDescriptor yX7_firstOver.desc).map (fun d => d.parameters.length) = some 0) ∧ 5 ≤ 21 := ⟨⟨TX7, 16, rfl⟩, by decide, m2 (List.mem_of_getElem? (i := 611) (by decide +kernel)) (by decide +kernel), m2 (List.mem_of_getElem? (i := 14) (by decide +kernel)) (by decide +kernel), m2 (List.mem_of_getElem? (i := 74) (by decide +kernel)) (by decide +kernel), m2 (List.mem_of_getElem? (i := 612) (by decide +kernel)) (by decide +kernel), ⟨by decide +kernel, by decide +kernel, by decide +kernel⟩, by decide⟩
theorem qm_X7_fittingPoles : (∃ (T : u_T) (N : Nat), vwCl[7]? = some (yX7_fittingPoles.cls, T, N)) ∧ 7 < 9 ∧ Cond.instanceMethod yX7_fittingPoles ∈ tb2 ∧ Cond.selects yX7_fittingPoles.cls yX7_fittingPoles yX7_fittingPoles ∈ tb2 ∧ Cond.initialized yX7_fittingPoles.cls ∈ tb2 ∧ Cond.code yX7_fittingPoles cX7_fittingPoles 5 (some .int) ∈ tb2 ∧ (yX7_fittingPoles.cls ≠ "java/lang/invoke/MethodHandle" ∧ yX7_fittingPoles.cls ≠ "java/lang/invoke/VarHandle" ∧ (parseMethodDescriptor yX7_fittingPoles.desc).map (fun d => d.parameters.length) = some 1) ∧ 5 ≤ 21 := ⟨⟨TX7, 16, rfl⟩, by decide, m2 (List.mem_of_getElem? (i := 680) (by decide +kernel)) (by decide +kernel), m2 (List.mem_of_getElem? (i := 19) (by decide +kernel)) (by decide +kernel), m2 (List.mem_of_getElem? (i := 74) (by decide +kernel)) (by decide +kernel), m2 (List.mem_of_getElem? (i := 681) (by decide +kernel)) (by decide +kernel), ⟨by decide +kernel, by decide +kernel, by decide +kernel⟩, by decide⟩
theorem qm_X7_fittingSorts : (∃ (T : u_T) (N : Nat), vwCl[7]? = some (yX7_fittingSorts.cls, T, N)) ∧ 7 < 9 ∧ Cond.instanceMethod yX7_fittingSorts ∈ tb2 ∧ Cond.selects yX7_fittingSorts.cls yX7_fittingSorts yX7_fittingSorts ∈ tb2 ∧ Cond.initialized yX7_fittingSorts.cls ∈ tb2 ∧ Cond.code yX7_fittingSorts cX7_fittingSorts 5 (some .int) ∈ tb2 ∧ (yX7_fittingSorts.cls ≠ "java/lang/invoke/MethodHandle" ∧ yX7_fittingSorts.cls ≠ "java/lang/invoke/VarHandle" ∧ (parseMethodDescriptor yX7_fittingSorts.desc).map (fun d => d.parameters.length) = some 1) ∧ 5 ≤ 21 := ⟨⟨TX7, 16, rfl⟩, by decide, m2 (List.mem_of_getElem? (i := 693) (by decide +kernel)) (by decide +kernel), m2 (List.mem_of_getElem? (i := 21) (by decide +kernel)) (by decide +kernel), m2 (List.mem_of_getElem? (i := 74) (by decide +kernel)) (by decide +kernel), m2 (List.mem_of_getElem? (i := 694) (by decide +kernel)) (by decide +kernel), ⟨by decide +kernel, by decide +kernel, by decide +kernel⟩, by decide⟩
theorem qm_X7_forget : (∃ (T : u_T) (N : Nat), vwCl[7]? = some (yX7_forget.cls, T, N)) ∧ 7 < 9 ∧ Cond.instanceMethod yX7_forget ∈ tb2 ∧ Cond.selects yX7_forget.cls yX7_forget yX7_forget ∈ tb2 ∧ Cond.initialized yX7_forget.cls ∈ tb2 ∧ Cond.code yX7_forget cX7_forget 2 (some .int) ∈ tb2 ∧ (yX7_forget.cls ≠ "java/lang/invoke/MethodHandle" ∧ yX7_forget.cls ≠ "java/lang/invoke/VarHandle" ∧ (parseMethodDescriptor yX7_forget.desc).map (fun d => d.parameters.length) = some 0) ∧ 2 ≤ 21 := ⟨⟨TX7, 16, rfl⟩, by decide, m2 (List.mem_of_getElem? (i := 662) (by decide +kernel)) (by decide +kernel), m2 (List.mem_of_getElem? (i := 663) (by decide +kernel)) (by decide +kernel), m2 (List.mem_of_getElem? (i := 74) (by decide +kernel)) (by decide +kernel), m2 (List.mem_of_getElem? (i := 664) (by decide +kernel)) (by decide +kernel), ⟨by decide +kernel, by decide +kernel, by decide +kernel⟩, by decide⟩
theorem qm_X7_forgetShows : (∃ (T : u_T) (N : Nat), vwCl[7]? = some (yX7_forgetShows.cls, T, N)) ∧ 7 < 9 ∧ Cond.instanceMethod yX7_forgetShows ∈ tb2 ∧ Cond.selects yX7_forgetShows.cls yX7_forgetShows yX7_forgetShows ∈ tb2 ∧ Cond.initialized yX7_forgetShows.cls ∈ tb2 ∧ Cond.code yX7_forgetShows cX7_forgetShows 1 none ∈ tb2 ∧ (yX7_forgetShows.cls ≠ "java/lang/invoke/MethodHandle" ∧ yX7_forgetShows.cls ≠ "java/lang/invoke/VarHandle" ∧ (parseMethodDescriptor yX7_forgetShows.desc).map (fun d => d.parameters.length) = some 0) ∧ 1 ≤ 21 := ⟨⟨TX7, 16, rfl⟩, by decide, m2 (List.mem_of_getElem? (i := 430) (by decide +kernel)) (by decide +kernel), m2 (List.mem_of_getElem? (i := 2) (by decide +kernel)) (by decide +kernel), m2 (List.mem_of_getElem? (i := 74) (by decide +kernel)) (by decide +kernel), m2 (List.mem_of_getElem? (i := 431) (by decide +kernel)) (by decide +kernel), ⟨by decide +kernel, by decide +kernel, by decide +kernel⟩, by decide⟩
theorem qm_X7_found : (∃ (T : u_T) (N : Nat), vwCl[7]? = some (yX7_found.cls, T, N)) ∧ 7 < 9 ∧ Cond.instanceMethod yX7_found ∈ tb2 ∧ Cond.selects yX7_found.cls yX7_found yX7_found ∈ tb2 ∧ Cond.initialized yX7_found.cls ∈ tb2 ∧ Cond.code yX7_found cX7_found 2 (some .int) ∈ tb2 ∧ (yX7_found.cls ≠ "java/lang/invoke/MethodHandle" ∧ yX7_found.cls ≠ "java/lang/invoke/VarHandle" ∧ (parseMethodDescriptor yX7_found.desc).map (fun d => d.parameters.length) = some 1) ∧ 2 ≤ 21 := ⟨⟨TX7, 16, rfl⟩, by decide, m2 (List.mem_of_getElem? (i := 495) (by decide +kernel)) (by decide +kernel), m2 (List.mem_of_getElem? (i := 4) (by decide +kernel)) (by decide +kernel), m2 (List.mem_of_getElem? (i := 74) (by decide +kernel)) (by decide +kernel), m2 (List.mem_of_getElem? (i := 496) (by decide +kernel)) (by decide +kernel), ⟨by decide +kernel, by decide +kernel, by decide +kernel⟩, by decide⟩
theorem qm_X7_get : (∃ (T : u_T) (N : Nat), vwCl[7]? = some (yX7_get.cls, T, N)) ∧ 7 < 9 ∧ Cond.instanceMethod yX7_get ∈ tb2 ∧ Cond.selects yX7_get.cls yX7_get yX7_get ∈ tb2 ∧ Cond.initialized yX7_get.cls ∈ tb2 ∧ Cond.code yX7_get cX7_get 5 (some .int) ∈ tb2 ∧ (yX7_get.cls ≠ "java/lang/invoke/MethodHandle" ∧ yX7_get.cls ≠ "java/lang/invoke/VarHandle" ∧ (parseMethodDescriptor yX7_get.desc).map (fun d => d.parameters.length) = some 3) ∧ 5 ≤ 21 := ⟨⟨TX7, 16, rfl⟩, by decide, m2 (List.mem_of_getElem? (i := 765) (by decide +kernel)) (by decide +kernel), m2 (List.mem_of_getElem? (i := 766) (by decide +kernel)) (by decide +kernel), m2 (List.mem_of_getElem? (i := 74) (by decide +kernel)) (by decide +kernel), m2 (List.mem_of_getElem? (i := 767) (by decide +kernel)) (by decide +kernel), ⟨by decide +kernel, by decide +kernel, by decide +kernel⟩, by decide⟩
theorem qm_X7_hold : (∃ (T : u_T) (N : Nat), vwCl[7]? = some (yX7_hold.cls, T, N)) ∧ 7 < 9 ∧ Cond.instanceMethod yX7_hold ∈ tb2 ∧ Cond.selects yX7_hold.cls yX7_hold yX7_hold ∈ tb2 ∧ Cond.initialized yX7_hold.cls ∈ tb2 ∧ Cond.code yX7_hold cX7_hold 3 (some .int) ∈ tb2 ∧ (yX7_hold.cls ≠ "java/lang/invoke/MethodHandle" ∧ yX7_hold.cls ≠ "java/lang/invoke/VarHandle" ∧ (parseMethodDescriptor yX7_hold.desc).map (fun d => d.parameters.length) = some 2) ∧ 3 ≤ 21 := ⟨⟨TX7, 16, rfl⟩, by decide, m2 (List.mem_of_getElem? (i := 630) (by decide +kernel)) (by decide +kernel), m2 (List.mem_of_getElem? (i := 631) (by decide +kernel)) (by decide +kernel), m2 (List.mem_of_getElem? (i := 74) (by decide +kernel)) (by decide +kernel), m2 (List.mem_of_getElem? (i := 632) (by decide +kernel)) (by decide +kernel), ⟨by decide +kernel, by decide +kernel, by decide +kernel⟩, by decide⟩
theorem qm_X7_isWalker : (∃ (T : u_T) (N : Nat), vwCl[7]? = some (yX7_isWalker.cls, T, N)) ∧ 7 < 9 ∧ Cond.instanceMethod yX7_isWalker ∈ tb2 ∧ Cond.selects yX7_isWalker.cls yX7_isWalker yX7_isWalker ∈ tb2 ∧ Cond.initialized yX7_isWalker.cls ∈ tb2 ∧ Cond.code yX7_isWalker cX7_isWalker 2 (some .boolean) ∈ tb2 ∧ (yX7_isWalker.cls ≠ "java/lang/invoke/MethodHandle" ∧ yX7_isWalker.cls ≠ "java/lang/invoke/VarHandle" ∧ (parseMethodDescriptor yX7_isWalker.desc).map (fun d => d.parameters.length) = some 1) ∧ 2 ≤ 21 := ⟨⟨TX7, 16, rfl⟩, by decide, m2 (List.mem_of_getElem? (i := 452) (by decide +kernel)) (by decide +kernel), m2 (List.mem_of_getElem? (i := 3) (by decide +kernel)) (by decide +kernel), m2 (List.mem_of_getElem? (i := 74) (by decide +kernel)) (by decide +kernel), m2 (List.mem_of_getElem? (i := 453) (by decide +kernel)) (by decide +kernel), ⟨by decide +kernel, by decide +kernel, by decide +kernel⟩, by decide⟩
theorem qm_X7_lay : (∃ (T : u_T) (N : Nat), vwCl[7]? = some (yX7_lay.cls, T, N)) ∧ 7 < 9 ∧ Cond.instanceMethod yX7_lay ∈ tb2 ∧ Cond.selects yX7_lay.cls yX7_lay yX7_lay ∈ tb2 ∧ Cond.initialized yX7_lay.cls ∈ tb2 ∧ Cond.code yX7_lay cX7_lay 6 (some .int) ∈ tb2 ∧ (yX7_lay.cls ≠ "java/lang/invoke/MethodHandle" ∧ yX7_lay.cls ≠ "java/lang/invoke/VarHandle" ∧ (parseMethodDescriptor yX7_lay.desc).map (fun d => d.parameters.length) = some 4) ∧ 6 ≤ 21 := ⟨⟨TX7, 16, rfl⟩, by decide, m2 (List.mem_of_getElem? (i := 750) (by decide +kernel)) (by decide +kernel), m2 (List.mem_of_getElem? (i := 751) (by decide +kernel)) (by decide +kernel), m2 (List.mem_of_getElem? (i := 74) (by decide +kernel)) (by decide +kernel), m2 (List.mem_of_getElem? (i := 752) (by decide +kernel)) (by decide +kernel), ⟨by decide +kernel, by decide +kernel, by decide +kernel⟩, by decide⟩
theorem qm_X7_lean : (∃ (T : u_T) (N : Nat), vwCl[7]? = some (yX7_lean.cls, T, N)) ∧ 7 < 9 ∧ Cond.instanceMethod yX7_lean ∈ tb2 ∧ Cond.selects yX7_lean.cls yX7_lean yX7_lean ∈ tb2 ∧ Cond.initialized yX7_lean.cls ∈ tb2 ∧ Cond.code yX7_lean cX7_lean 3 (some .int) ∈ tb2 ∧ (yX7_lean.cls ≠ "java/lang/invoke/MethodHandle" ∧ yX7_lean.cls ≠ "java/lang/invoke/VarHandle" ∧ (parseMethodDescriptor yX7_lean.desc).map (fun d => d.parameters.length) = some 2) ∧ 3 ≤ 21 := ⟨⟨TX7, 16, rfl⟩, by decide, m2 (List.mem_of_getElem? (i := 581) (by decide +kernel)) (by decide +kernel), m2 (List.mem_of_getElem? (i := 582) (by decide +kernel)) (by decide +kernel), m2 (List.mem_of_getElem? (i := 74) (by decide +kernel)) (by decide +kernel), m2 (List.mem_of_getElem? (i := 583) (by decide +kernel)) (by decide +kernel), ⟨by decide +kernel, by decide +kernel, by decide +kernel⟩, by decide⟩
theorem qm_X7_lose : (∃ (T : u_T) (N : Nat), vwCl[7]? = some (yX7_lose.cls, T, N)) ∧ 7 < 9 ∧ Cond.instanceMethod yX7_lose ∈ tb2 ∧ Cond.selects yX7_lose.cls yX7_lose yX7_lose ∈ tb2 ∧ Cond.initialized yX7_lose.cls ∈ tb2 ∧ Cond.code yX7_lose cX7_lose 3 (some .int) ∈ tb2 ∧ (yX7_lose.cls ≠ "java/lang/invoke/MethodHandle" ∧ yX7_lose.cls ≠ "java/lang/invoke/VarHandle" ∧ (parseMethodDescriptor yX7_lose.desc).map (fun d => d.parameters.length) = some 1) ∧ 3 ≤ 21 := ⟨⟨TX7, 16, rfl⟩, by decide, m2 (List.mem_of_getElem? (i := 746) (by decide +kernel)) (by decide +kernel), m2 (List.mem_of_getElem? (i := 747) (by decide +kernel)) (by decide +kernel), m2 (List.mem_of_getElem? (i := 74) (by decide +kernel)) (by decide +kernel), m2 (List.mem_of_getElem? (i := 748) (by decide +kernel)) (by decide +kernel), ⟨by decide +kernel, by decide +kernel, by decide +kernel⟩, by decide⟩
theorem qm_X7_markBehind : (∃ (T : u_T) (N : Nat), vwCl[7]? = some (yX7_markBehind.cls, T, N)) ∧ 7 < 9 ∧ Cond.instanceMethod yX7_markBehind ∈ tb2 ∧ Cond.selects yX7_markBehind.cls yX7_markBehind yX7_markBehind ∈ tb2 ∧ Cond.initialized yX7_markBehind.cls ∈ tb2 ∧ Cond.code yX7_markBehind cX7_markBehind 4 (some .long) ∈ tb2 ∧ (yX7_markBehind.cls ≠ "java/lang/invoke/MethodHandle" ∧ yX7_markBehind.cls ≠ "java/lang/invoke/VarHandle" ∧ (parseMethodDescriptor yX7_markBehind.desc).map (fun d => d.parameters.length) = some 2) ∧ 4 ≤ 21 := ⟨⟨TX7, 16, rfl⟩, by decide, m2 (List.mem_of_getElem? (i := 705) (by decide +kernel)) (by decide +kernel), m2 (List.mem_of_getElem? (i := 23) (by decide +kernel)) (by decide +kernel), m2 (List.mem_of_getElem? (i := 74) (by decide +kernel)) (by decide +kernel), m2 (List.mem_of_getElem? (i := 706) (by decide +kernel)) (by decide +kernel), ⟨by decide +kernel, by decide +kernel, by decide +kernel⟩, by decide⟩
theorem qm_X7_markPlaces : (∃ (T : u_T) (N : Nat), vwCl[7]? = some (yX7_markPlaces.cls, T, N)) ∧ 7 < 9 ∧ Cond.instanceMethod yX7_markPlaces ∈ tb2 ∧ Cond.selects yX7_markPlaces.cls yX7_markPlaces yX7_markPlaces ∈ tb2 ∧ Cond.initialized yX7_markPlaces.cls ∈ tb2 ∧ Cond.code yX7_markPlaces cX7_markPlaces 4 none ∈ tb2 ∧ (yX7_markPlaces.cls ≠ "java/lang/invoke/MethodHandle" ∧ yX7_markPlaces.cls ≠ "java/lang/invoke/VarHandle" ∧ (parseMethodDescriptor yX7_markPlaces.desc).map (fun d => d.parameters.length) = some 1) ∧ 4 ≤ 21 := ⟨⟨TX7, 16, rfl⟩, by decide, m2 (List.mem_of_getElem? (i := 684) (by decide +kernel)) (by decide +kernel), m2 (List.mem_of_getElem? (i := 20) (by decide +kernel)) (by decide +kernel), m2 (List.mem_of_getElem? (i := 74) (by decide +kernel)) (by decide +kernel), m2 (List.mem_of_getElem? (i := 685) (by decide +kernel)) (by decide +kernel), ⟨by decide +kernel, by decide +kernel, by decide +kernel⟩, by decide⟩
theorem qm_X7_mixedBehind : (∃ (T : u_T) (N : Nat), vwCl[7]? = some (yX7_mixedBehind.cls, T, N)) ∧ 7 < 9 ∧ Cond.instanceMethod yX7_mixedBehind ∈ tb2 ∧ Cond.selects yX7_mixedBehind.cls yX7_mixedBehind yX7_mixedBehind ∈ tb2 ∧ Cond.initialized yX7_mixedBehind.cls ∈ tb2 ∧ Cond.code yX7_mixedBehind cX7_mixedBehind 5 (some .long) ∈ tb2 ∧ (yX7_mixedBehind.cls ≠ "java/lang/invoke/MethodHandle" ∧ yX7_mixedBehind.cls ≠ "java/lang/invoke/VarHandle" ∧ (parseMethodDescriptor yX7_mixedBehind.desc).map (fun d => d.parameters.length) = some 3) ∧ 5 ≤ 21 := ⟨⟨TX7, 16, rfl⟩, by decide, m2 (List.mem_of_getElem? (i := 809) (by decide +kernel)) (by decide +kernel), m2 (List.mem_of_getElem? (i := 28) (by decide +kernel)) (by decide +kernel), m2 (List.mem_of_getElem? (i := 74) (by decide +kernel)) (by decide +kernel), m2 (List.mem_of_getElem? (i := 810) (by decide +kernel)) (by decide +kernel), ⟨by decide +kernel, by decide +kernel, by decide +kernel⟩, by decide⟩
theorem qm_X7_mixedBest : (∃ (T : u_T) (N : Nat), vwCl[7]? = some (yX7_mixedBest.cls, T, N)) ∧ 7 < 9 ∧ Cond.instanceMethod yX7_mixedBest ∈ tb2 ∧ Cond.selects yX7_mixedBest.cls yX7_mixedBest yX7_mixedBest ∈ tb2 ∧ Cond.initialized yX7_mixedBest.cls ∈ tb2 ∧ Cond.code yX7_mixedBest cX7_mixedBest 4 (some .long) ∈ tb2 ∧ (yX7_mixedBest.cls ≠ "java/lang/invoke/MethodHandle" ∧ yX7_mixedBest.cls ≠ "java/lang/invoke/VarHandle" ∧ (parseMethodDescriptor yX7_mixedBest.desc).map (fun d => d.parameters.length) = some 2) ∧ 4 ≤ 21 := ⟨⟨TX7, 16, rfl⟩, by decide, m2 (List.mem_of_getElem? (i := 821) (by decide +kernel)) (by decide +kernel), m2 (List.mem_of_getElem? (i := 30) (by decide +kernel)) (by decide +kernel), m2 (List.mem_of_getElem? (i := 74) (by decide +kernel)) (by decide +kernel), m2 (List.mem_of_getElem? (i := 822) (by decide +kernel)) (by decide +kernel), ⟨by decide +kernel, by decide +kernel, by decide +kernel⟩, by decide⟩
theorem qm_X7_mixedPlans : (∃ (T : u_T) (N : Nat), vwCl[7]? = some (yX7_mixedPlans.cls, T, N)) ∧ 7 < 9 ∧ Cond.instanceMethod yX7_mixedPlans ∈ tb2 ∧ Cond.selects yX7_mixedPlans.cls yX7_mixedPlans yX7_mixedPlans ∈ tb2 ∧ Cond.initialized yX7_mixedPlans.cls ∈ tb2 ∧ Cond.code yX7_mixedPlans cX7_mixedPlans 6 (some .long) ∈ tb2 ∧ (yX7_mixedPlans.cls ≠ "java/lang/invoke/MethodHandle" ∧ yX7_mixedPlans.cls ≠ "java/lang/invoke/VarHandle" ∧ (parseMethodDescriptor yX7_mixedPlans.desc).map (fun d => d.parameters.length) = some 2) ∧ 6 ≤ 21 := ⟨⟨TX7, 16, rfl⟩, by decide, m2 (List.mem_of_getElem? (i := 816) (by decide +kernel)) (by decide +kernel), m2 (List.mem_of_getElem? (i := 29) (by decide +kernel)) (by decide +kernel), m2 (List.mem_of_getElem? (i := 74) (by decide +kernel)) (by decide +kernel), m2 (List.mem_of_getElem? (i := 817) (by decide +kernel)) (by decide +kernel), ⟨by decide +kernel, by decide +kernel, by decide +kernel⟩, by decide⟩
theorem qm_X7_mixedRest : (∃ (T : u_T) (N : Nat), vwCl[7]? = some (yX7_mixedRest.cls, T, N)) ∧ 7 < 9 ∧ Cond.instanceMethod yX7_mixedRest ∈ tb2 ∧ Cond.selects yX7_mixedRest.cls yX7_mixedRest yX7_mixedRest ∈ tb2 ∧ Cond.initialized yX7_mixedRest.cls ∈ tb2 ∧ Cond.code yX7_mixedRest cX7_mixedRest 6 (some .long) ∈ tb2 ∧ (yX7_mixedRest.cls ≠ "java/lang/invoke/MethodHandle" ∧ yX7_mixedRest.cls ≠ "java/lang/invoke/VarHandle" ∧ (parseMethodDescriptor yX7_mixedRest.desc).map (fun d => d.parameters.length) = some 1) ∧ 6 ≤ 21 := ⟨⟨TX7, 16, rfl⟩, by decide, m2 (List.mem_of_getElem? (i := 829) (by decide +kernel)) (by decide +kernel), m2 (List.mem_of_getElem? (i := 31) (by decide +kernel)) (by decide +kernel), m2 (List.mem_of_getElem? (i := 74) (by decide +kernel)) (by decide +kernel), m2 (List.mem_of_getElem? (i := 830) (by decide +kernel)) (by decide +kernel), ⟨by decide +kernel, by decide +kernel, by decide +kernel⟩, by decide⟩
theorem qm_X7_mixedWalk : (∃ (T : u_T) (N : Nat), vwCl[7]? = some (yX7_mixedWalk.cls, T, N)) ∧ 7 < 9 ∧ Cond.instanceMethod yX7_mixedWalk ∈ tb2 ∧ Cond.selects yX7_mixedWalk.cls yX7_mixedWalk yX7_mixedWalk ∈ tb2 ∧ Cond.initialized yX7_mixedWalk.cls ∈ tb2 ∧ Cond.code yX7_mixedWalk cX7_mixedWalk 7 (some .long) ∈ tb2 ∧ (yX7_mixedWalk.cls ≠ "java/lang/invoke/MethodHandle" ∧ yX7_mixedWalk.cls ≠ "java/lang/invoke/VarHandle" ∧ (parseMethodDescriptor yX7_mixedWalk.desc).map (fun d => d.parameters.length) = some 2) ∧ 7 ≤ 21 := ⟨⟨TX7, 16, rfl⟩, by decide, m2 (List.mem_of_getElem? (i := 804) (by decide +kernel)) (by decide +kernel), m2 (List.mem_of_getElem? (i := 27) (by decide +kernel)) (by decide +kernel), m2 (List.mem_of_getElem? (i := 74) (by decide +kernel)) (by decide +kernel), m2 (List.mem_of_getElem? (i := 805) (by decide +kernel)) (by decide +kernel), ⟨by decide +kernel, by decide +kernel, by decide +kernel⟩, by decide⟩
theorem qm_X7_mostAlike : (∃ (T : u_T) (N : Nat), vwCl[7]? = some (yX7_mostAlike.cls, T, N)) ∧ 7 < 9 ∧ Cond.instanceMethod yX7_mostAlike ∈ tb2 ∧ Cond.selects yX7_mostAlike.cls yX7_mostAlike yX7_mostAlike ∈ tb2 ∧ Cond.initialized yX7_mostAlike.cls ∈ tb2 ∧ Cond.code yX7_mostAlike cX7_mostAlike 8 (some .int) ∈ tb2 ∧ (yX7_mostAlike.cls ≠ "java/lang/invoke/MethodHandle" ∧ yX7_mostAlike.cls ≠ "java/lang/invoke/VarHandle" ∧ (parseMethodDescriptor yX7_mostAlike.desc).map (fun d => d.parameters.length) = some 2) ∧ 8 ≤ 21 := ⟨⟨TX7, 16, rfl⟩, by decide, m2 (List.mem_of_getElem? (i := 701) (by decide +kernel)) (by decide +kernel), m2 (List.mem_of_getElem? (i := 22) (by decide +kernel)) (by decide +kernel), m2 (List.mem_of_getElem? (i := 74) (by decide +kernel)) (by decide +kernel), m2 (List.mem_of_getElem? (i := 702) (by decide +kernel)) (by decide +kernel), ⟨by decide +kernel, by decide +kernel, by decide +kernel⟩, by decide⟩
theorem qm_X7_never : (∃ (T : u_T) (N : Nat), vwCl[7]? = some (yX7_never.cls, T, N)) ∧ 7 < 9 ∧ Cond.instanceMethod yX7_never ∈ tb2 ∧ Cond.selects yX7_never.cls yX7_never yX7_never ∈ tb2 ∧ Cond.initialized yX7_never.cls ∈ tb2 ∧ Cond.code yX7_never cX7_never 3 (some .int) ∈ tb2 ∧ (yX7_never.cls ≠ "java/lang/invoke/MethodHandle" ∧ yX7_never.cls ≠ "java/lang/invoke/VarHandle" ∧ (parseMethodDescriptor yX7_never.desc).map (fun d => d.parameters.length) = some 0) ∧ 3 ≤ 21 := ⟨⟨TX7, 16, rfl⟩, by decide, m2 (List.mem_of_getElem? (i := 666) (by decide +kernel)) (by decide +kernel), m2 (List.mem_of_getElem? (i := 667) (by decide +kernel)) (by decide +kernel), m2 (List.mem_of_getElem? (i := 74) (by decide +kernel)) (by decide +kernel), m2 (List.mem_of_getElem? (i := 668) (by decide +kernel)) (by decide +kernel), ⟨by decide +kernel, by decide +kernel, by decide +kernel⟩, by decide⟩
theorem qm_X7_nobodyFallsWithout : (∃ (T : u_T) (N : Nat), vwCl[7]? = some (yX7_nobodyFallsWithout.cls, T, N)) ∧ 7 < 9 ∧ Cond.instanceMethod yX7_nobodyFallsWithout ∈ tb2 ∧ Cond.selects yX7_nobodyFallsWithout.cls yX7_nobodyFallsWithout yX7_nobodyFallsWithout ∈ tb2 ∧ Cond.initialized yX7_nobodyFallsWithout.cls ∈ tb2 ∧ Cond.code yX7_nobodyFallsWithout cX7_nobodyFallsWithout 2 (some .boolean) ∈ tb2 ∧ (yX7_nobodyFallsWithout.cls ≠ "java/lang/invoke/MethodHandle" ∧ yX7_nobodyFallsWithout.cls ≠ "java/lang/invoke/VarHandle" ∧ (parseMethodDescriptor yX7_nobodyFallsWithout.desc).map (fun d => d.parameters.length) = some 1) ∧ 2 ≤ 21 := ⟨⟨TX7, 16, rfl⟩, by decide, m2 (List.mem_of_getElem? (i := 647) (by decide +kernel)) (by decide +kernel), m2 (List.mem_of_getElem? (i := 18) (by decide +kernel)) (by decide +kernel), m2 (List.mem_of_getElem? (i := 74) (by decide +kernel)) (by decide +kernel), m2 (List.mem_of_getElem? (i := 648) (by decide +kernel)) (by decide +kernel), ⟨by decide +kernel, by decide +kernel, by decide +kernel⟩, by decide⟩
theorem qm_X7_read : (∃ (T : u_T) (N : Nat), vwCl[7]? = some (yX7_read.cls, T, N)) ∧ 7 < 9 ∧ Cond.instanceMethod yX7_read ∈ tb2 ∧ Cond.selects yX7_read.cls yX7_read yX7_read ∈ tb2 ∧ Cond.initialized yX7_read.cls ∈ tb2 ∧ Cond.code yX7_read cX7_read 8 (some .int) ∈ tb2 ∧ (yX7_read.cls ≠ "java/lang/invoke/MethodHandle" ∧ yX7_read.cls ≠ "java/lang/invoke/VarHandle" ∧ (parseMethodDescriptor yX7_read.desc).map (fun d => d.parameters.length) = some 1) ∧ 8 ≤ 21 := ⟨⟨TX7, 16, rfl⟩, by decide, m2 (List.mem_of_getElem? (i := 487) (by decide +kernel)) (by decide +kernel), m2 (List.mem_of_getElem? (i := 488) (by decide +kernel)) (by decide +kernel), m2 (List.mem_of_getElem? (i := 74) (by decide +kernel)) (by decide +kernel), m2 (List.mem_of_getElem? (i := 489) (by decide +kernel)) (by decide +kernel), ⟨by decide +kernel, by decide +kernel, by decide +kernel⟩, by decide⟩
theorem qm_X7_routine : (∃ (T : u_T) (N : Nat), vwCl[7]? = some (yX7_routine.cls, T, N)) ∧ 7 < 9 ∧ Cond.instanceMethod yX7_routine ∈ tb2 ∧ Cond.selects yX7_routine.cls yX7_routine yX7_routine ∈ tb2 ∧ Cond.initialized yX7_routine.cls ∈ tb2 ∧ Cond.code yX7_routine cX7_routine 2 (some .int) ∈ tb2 ∧ (yX7_routine.cls ≠ "java/lang/invoke/MethodHandle" ∧ yX7_routine.cls ≠ "java/lang/invoke/VarHandle" ∧ (parseMethodDescriptor yX7_routine.desc).map (fun d => d.parameters.length) = some 1) ∧ 2 ≤ 21 := ⟨⟨TX7, 16, rfl⟩, by decide, m2 (List.mem_of_getElem? (i := 455) (by decide +kernel)) (by decide +kernel), m2 (List.mem_of_getElem? (i := 456) (by decide +kernel)) (by decide +kernel), m2 (List.mem_of_getElem? (i := 74) (by decide +kernel)) (by decide +kernel), m2 (List.mem_of_getElem? (i := 457) (by decide +kernel)) (by decide +kernel), ⟨by decide +kernel, by decide +kernel, by decide +kernel⟩, by decide⟩
theorem qm_X7_seen : (∃ (T : u_T) (N : Nat), vwCl[7]? = some (yX7_seen.cls, T, N)) ∧ 7 < 9 ∧ Cond.instanceMethod yX7_seen ∈ tb2 ∧ Cond.selects yX7_seen.cls yX7_seen yX7_seen ∈ tb2 ∧ Cond.initialized yX7_seen.cls ∈ tb2 ∧ Cond.code yX7_seen cX7_seen 4 (some .int) ∈ tb2 ∧ (yX7_seen.cls ≠ "java/lang/invoke/MethodHandle" ∧ yX7_seen.cls ≠ "java/lang/invoke/VarHandle" ∧ (parseMethodDescriptor yX7_seen.desc).map (fun d => d.parameters.length) = some 3) ∧ 4 ≤ 21 := ⟨⟨TX7, 16, rfl⟩, by decide, m2 (List.mem_of_getElem? (i := 650) (by decide +kernel)) (by decide +kernel), m2 (List.mem_of_getElem? (i := 651) (by decide +kernel)) (by decide +kernel), m2 (List.mem_of_getElem? (i := 74) (by decide +kernel)) (by decide +kernel), m2 (List.mem_of_getElem? (i := 652) (by decide +kernel)) (by decide +kernel), ⟨by decide +kernel, by decide +kernel, by decide +kernel⟩, by decide⟩
theorem qm_X7_sees : (∃ (T : u_T) (N : Nat), vwCl[7]? = some (yX7_sees.cls, T, N)) ∧ 7 < 9 ∧ Cond.instanceMethod yX7_sees ∈ tb2 ∧ Cond.selects yX7_sees.cls yX7_sees yX7_sees ∈ tb2 ∧ Cond.initialized yX7_sees.cls ∈ tb2 ∧ Cond.code yX7_sees cX7_sees 5 (some .int) ∈ tb2 ∧ (yX7_sees.cls ≠ "java/lang/invoke/MethodHandle" ∧ yX7_sees.cls ≠ "java/lang/invoke/VarHandle" ∧ (parseMethodDescriptor yX7_sees.desc).map (fun d => d.parameters.length) = some 2) ∧ 5 ≤ 21 := ⟨⟨TX7, 16, rfl⟩, by decide, m2 (List.mem_of_getElem? (i := 590) (by decide +kernel)) (by decide +kernel), m2 (List.mem_of_getElem? (i := 591) (by decide +kernel)) (by decide +kernel), m2 (List.mem_of_getElem? (i := 74) (by decide +kernel)) (by decide +kernel), m2 (List.mem_of_getElem? (i := 592) (by decide +kernel)) (by decide +kernel), ⟨by decide +kernel, by decide +kernel, by decide +kernel⟩, by decide⟩
theorem qm_X7_sheet : (∃ (T : u_T) (N : Nat), vwCl[7]? = some (yX7_sheet.cls, T, N)) ∧ 7 < 9 ∧ Cond.instanceMethod yX7_sheet ∈ tb2 ∧ Cond.selects yX7_sheet.cls yX7_sheet yX7_sheet ∈ tb2 ∧ Cond.initialized yX7_sheet.cls ∈ tb2 ∧ Cond.code yX7_sheet cX7_sheet 4 (some .int) ∈ tb2 ∧ (yX7_sheet.cls ≠ "java/lang/invoke/MethodHandle" ∧ yX7_sheet.cls ≠ "java/lang/invoke/VarHandle" ∧ (parseMethodDescriptor yX7_sheet.desc).map (fun d => d.parameters.length) = some 3) ∧ 4 ≤ 21 := ⟨⟨TX7, 16, rfl⟩, by decide, m2 (List.mem_of_getElem? (i := 732) (by decide +kernel)) (by decide +kernel), m2 (List.mem_of_getElem? (i := 733) (by decide +kernel)) (by decide +kernel), m2 (List.mem_of_getElem? (i := 74) (by decide +kernel)) (by decide +kernel), m2 (List.mem_of_getElem? (i := 734) (by decide +kernel)) (by decide +kernel), ⟨by decide +kernel, by decide +kernel, by decide +kernel⟩, by decide⟩
theorem qm_X7_shown : (∃ (T : u_T) (N : Nat), vwCl[7]? = some (yX7_shown.cls, T, N)) ∧ 7 < 9 ∧ Cond.instanceMethod yX7_shown ∈ tb2 ∧ Cond.selects yX7_shown.cls yX7_shown yX7_shown ∈ tb2 ∧ Cond.initialized yX7_shown.cls ∈ tb2 ∧ Cond.code yX7_shown cX7_shown 1 (some (.object "WireWalkers$Show")) ∈ tb2 ∧ (yX7_shown.cls ≠ "java/lang/invoke/MethodHandle" ∧ yX7_shown.cls ≠ "java/lang/invoke/VarHandle" ∧ (parseMethodDescriptor yX7_shown.desc).map (fun d => d.parameters.length) = some 0) ∧ 1 ≤ 21 := ⟨⟨TX7, 16, rfl⟩, by decide, m2 (List.mem_of_getElem? (i := 503) (by decide +kernel)) (by decide +kernel), m2 (List.mem_of_getElem? (i := 5) (by decide +kernel)) (by decide +kernel), m2 (List.mem_of_getElem? (i := 74) (by decide +kernel)) (by decide +kernel), m2 (List.mem_of_getElem? (i := 504) (by decide +kernel)) (by decide +kernel), ⟨by decide +kernel, by decide +kernel, by decide +kernel⟩, by decide⟩
theorem qm_X7_shows : (∃ (T : u_T) (N : Nat), vwCl[7]? = some (yX7_shows.cls, T, N)) ∧ 7 < 9 ∧ Cond.instanceMethod yX7_shows ∈ tb2 ∧ Cond.selects yX7_shows.cls yX7_shows yX7_shows ∈ tb2 ∧ Cond.initialized yX7_shows.cls ∈ tb2 ∧ Cond.code yX7_shows cX7_shows 6 (some .int) ∈ tb2 ∧ (yX7_shows.cls ≠ "java/lang/invoke/MethodHandle" ∧ yX7_shows.cls ≠ "java/lang/invoke/VarHandle" ∧ (parseMethodDescriptor yX7_shows.desc).map (fun d => d.parameters.length) = some 3) ∧ 6 ≤ 21 := ⟨⟨TX7, 16, rfl⟩, by decide, m2 (List.mem_of_getElem? (i := 727) (by decide +kernel)) (by decide +kernel), m2 (List.mem_of_getElem? (i := 728) (by decide +kernel)) (by decide +kernel), m2 (List.mem_of_getElem? (i := 74) (by decide +kernel)) (by decide +kernel), m2 (List.mem_of_getElem? (i := 729) (by decide +kernel)) (by decide +kernel), ⟨by decide +kernel, by decide +kernel, by decide +kernel⟩, by decide⟩
theorem qm_X7_spare : (∃ (T : u_T) (N : Nat), vwCl[7]? = some (yX7_spare.cls, T, N)) ∧ 7 < 9 ∧ Cond.instanceMethod yX7_spare ∈ tb2 ∧ Cond.selects yX7_spare.cls yX7_spare yX7_spare ∈ tb2 ∧ Cond.initialized yX7_spare.cls ∈ tb2 ∧ Cond.code yX7_spare cX7_spare 3 (some .int) ∈ tb2 ∧ (yX7_spare.cls ≠ "java/lang/invoke/MethodHandle" ∧ yX7_spare.cls ≠ "java/lang/invoke/VarHandle" ∧ (parseMethodDescriptor yX7_spare.desc).map (fun d => d.parameters.length) = some 1) ∧ 3 ≤ 21 := ⟨⟨TX7, 16, rfl⟩, by decide, m2 (List.mem_of_getElem? (i := 638) (by decide +kernel)) (by decide +kernel), m2 (List.mem_of_getElem? (i := 639) (by decide +kernel)) (by decide +kernel), m2 (List.mem_of_getElem? (i := 74) (by decide +kernel)) (by decide +kernel), m2 (List.mem_of_getElem? (i := 640) (by decide +kernel)) (by decide +kernel), ⟨by decide +kernel, by decide +kernel, by decide +kernel⟩, by decide⟩
theorem qm_X7_spareFewest : (∃ (T : u_T) (N : Nat), vwCl[7]? = some (yX7_spareFewest.cls, T, N)) ∧ 7 < 9 ∧ Cond.instanceMethod yX7_spareFewest ∈ tb2 ∧ Cond.selects yX7_spareFewest.cls yX7_spareFewest yX7_spareFewest ∈ tb2 ∧ Cond.initialized yX7_spareFewest.cls ∈ tb2 ∧ Cond.code yX7_spareFewest cX7_spareFewest 3 (some .int) ∈ tb2 ∧ (yX7_spareFewest.cls ≠ "java/lang/invoke/MethodHandle" ∧ yX7_spareFewest.cls ≠ "java/lang/invoke/VarHandle" ∧ (parseMethodDescriptor yX7_spareFewest.desc).map (fun d => d.parameters.length) = some 0) ∧ 3 ≤ 21 := ⟨⟨TX7, 16, rfl⟩, by decide, m2 (List.mem_of_getElem? (i := 643) (by decide +kernel)) (by decide +kernel), m2 (List.mem_of_getElem? (i := 17) (by decide +kernel)) (by decide +kernel), m2 (List.mem_of_getElem? (i := 74) (by decide +kernel)) (by decide +kernel), m2 (List.mem_of_getElem? (i := 644) (by decide +kernel)) (by decide +kernel), ⟨by decide +kernel, by decide +kernel, by decide +kernel⟩, by decide⟩
theorem qm_X7_start : (∃ (T : u_T) (N : Nat), vwCl[7]? = some (yX7_start.cls, T, N)) ∧ 7 < 9 ∧ Cond.instanceMethod yX7_start ∈ tb2 ∧ Cond.selects yX7_start.cls yX7_start yX7_start ∈ tb2 ∧ Cond.initialized yX7_start.cls ∈ tb2 ∧ Cond.code yX7_start cX7_start 3 (some .int) ∈ tb2 ∧ (yX7_start.cls ≠ "java/lang/invoke/MethodHandle" ∧ yX7_start.cls ≠ "java/lang/invoke/VarHandle" ∧ (parseMethodDescriptor yX7_start.desc).map (fun d => d.parameters.length) = some 2) ∧ 3 ≤ 21 := ⟨⟨TX7, 16, rfl⟩, by decide, m2 (List.mem_of_getElem? (i := 622) (by decide +kernel)) (by decide +kernel), m2 (List.mem_of_getElem? (i := 623) (by decide +kernel)) (by decide +kernel), m2 (List.mem_of_getElem? (i := 74) (by decide +kernel)) (by decide +kernel), m2 (List.mem_of_getElem? (i := 624) (by decide +kernel)) (by decide +kernel), ⟨by decide +kernel, by decide +kernel, by decide +kernel⟩, by decide⟩
theorem qm_X7_sum : (∃ (T : u_T) (N : Nat), vwCl[7]? = some (yX7_sum.cls, T, N)) ∧ 7 < 9 ∧ Cond.instanceMethod yX7_sum ∈ tb2 ∧ Cond.selects yX7_sum.cls yX7_sum yX7_sum ∈ tb2 ∧ Cond.initialized yX7_sum.cls ∈ tb2 ∧ Cond.code yX7_sum cX7_sum 3 (some .int) ∈ tb2 ∧ (yX7_sum.cls ≠ "java/lang/invoke/MethodHandle" ∧ yX7_sum.cls ≠ "java/lang/invoke/VarHandle" ∧ (parseMethodDescriptor yX7_sum.desc).map (fun d => d.parameters.length) = some 1) ∧ 3 ≤ 21 := ⟨⟨TX7, 16, rfl⟩, by decide, m2 (List.mem_of_getElem? (i := 602) (by decide +kernel)) (by decide +kernel), m2 (List.mem_of_getElem? (i := 603) (by decide +kernel)) (by decide +kernel), m2 (List.mem_of_getElem? (i := 74) (by decide +kernel)) (by decide +kernel), m2 (List.mem_of_getElem? (i := 604) (by decide +kernel)) (by decide +kernel), ⟨by decide +kernel, by decide +kernel, by decide +kernel⟩, by decide⟩
theorem qm_X7_sway : (∃ (T : u_T) (N : Nat), vwCl[7]? = some (yX7_sway.cls, T, N)) ∧ 7 < 9 ∧ Cond.instanceMethod yX7_sway ∈ tb2 ∧ Cond.selects yX7_sway.cls yX7_sway yX7_sway ∈ tb2 ∧ Cond.initialized yX7_sway.cls ∈ tb2 ∧ Cond.code yX7_sway cX7_sway 2 (some .int) ∈ tb2 ∧ (yX7_sway.cls ≠ "java/lang/invoke/MethodHandle" ∧ yX7_sway.cls ≠ "java/lang/invoke/VarHandle" ∧ (parseMethodDescriptor yX7_sway.desc).map (fun d => d.parameters.length) = some 1) ∧ 2 ≤ 21 := ⟨⟨TX7, 16, rfl⟩, by decide, m2 (List.mem_of_getElem? (i := 594) (by decide +kernel)) (by decide +kernel), m2 (List.mem_of_getElem? (i := 595) (by decide +kernel)) (by decide +kernel), m2 (List.mem_of_getElem? (i := 74) (by decide +kernel)) (by decide +kernel), m2 (List.mem_of_getElem? (i := 596) (by decide +kernel)) (by decide +kernel), ⟨by decide +kernel, by decide +kernel, by decide +kernel⟩, by decide⟩
theorem qm_X7_takeTexts : (∃ (T : u_T) (N : Nat), vwCl[7]? = some (yX7_takeTexts.cls, T, N)) ∧ 7 < 9 ∧ Cond.instanceMethod yX7_takeTexts ∈ tb2 ∧ Cond.selects yX7_takeTexts.cls yX7_takeTexts yX7_takeTexts ∈ tb2 ∧ Cond.initialized yX7_takeTexts.cls ∈ tb2 ∧ Cond.code yX7_takeTexts cX7_takeTexts 1 none ∈ tb2 ∧ (yX7_takeTexts.cls ≠ "java/lang/invoke/MethodHandle" ∧ yX7_takeTexts.cls ≠ "java/lang/invoke/VarHandle" ∧ (parseMethodDescriptor yX7_takeTexts.desc).map (fun d => d.parameters.length) = some 0) ∧ 1 ≤ 21 := ⟨⟨TX7, 16, rfl⟩, by decide, m2 (List.mem_of_getElem? (i := 390) (by decide +kernel)) (by decide +kernel), m2 (List.mem_of_getElem? (i := 1) (by decide +kernel)) (by decide +kernel), m2 (List.mem_of_getElem? (i := 74) (by decide +kernel)) (by decide +kernel), m2 (List.mem_of_getElem? (i := 391) (by decide +kernel)) (by decide +kernel), ⟨by decide +kernel, by decide +kernel, by decide +kernel⟩, by decide⟩
theorem qm_X7_textOf : (∃ (T : u_T) (N : Nat), vwCl[7]? = some (yX7_textOf.cls, T, N)) ∧ 7 < 9 ∧ Cond.instanceMethod yX7_textOf ∈ tb2 ∧ Cond.selects yX7_textOf.cls yX7_textOf yX7_textOf ∈ tb2 ∧ Cond.initialized yX7_textOf.cls ∈ tb2 ∧ Cond.code yX7_textOf cX7_textOf 2 (some (.object "WireWalkers$Text")) ∈ tb2 ∧ (yX7_textOf.cls ≠ "java/lang/invoke/MethodHandle" ∧ yX7_textOf.cls ≠ "java/lang/invoke/VarHandle" ∧ (parseMethodDescriptor yX7_textOf.desc).map (fun d => d.parameters.length) = some 1) ∧ 2 ≤ 21 := ⟨⟨TX7, 16, rfl⟩, by decide, m2 (List.mem_of_getElem? (i := 378) (by decide +kernel)) (by decide +kernel), m2 (List.mem_of_getElem? (i := 0) (by decide +kernel)) (by decide +kernel), m2 (List.mem_of_getElem? (i := 74) (by decide +kernel)) (by decide +kernel), m2 (List.mem_of_getElem? (i := 379) (by decide +kernel)) (by decide +kernel), ⟨by decide +kernel, by decide +kernel, by decide +kernel⟩, by decide⟩
theorem qm_X7_type : (∃ (T : u_T) (N : Nat), vwCl[7]? = some (yX7_type.cls, T, N)) ∧ 7 < 9 ∧ Cond.instanceMethod yX7_type ∈ tb2 ∧ Cond.selects yX7_type.cls yX7_type yX7_type ∈ tb2 ∧ Cond.initialized yX7_type.cls ∈ tb2 ∧ Cond.code yX7_type cX7_type 4 (some .int) ∈ tb2 ∧ (yX7_type.cls ≠ "java/lang/invoke/MethodHandle" ∧ yX7_type.cls ≠ "java/lang/invoke/VarHandle" ∧ (parseMethodDescriptor yX7_type.desc).map (fun d => d.parameters.length) = some 2) ∧ 4 ≤ 21 := ⟨⟨TX7, 16, rfl⟩, by decide, m2 (List.mem_of_getElem? (i := 370) (by decide +kernel)) (by decide +kernel), m2 (List.mem_of_getElem? (i := 371) (by decide +kernel)) (by decide +kernel), m2 (List.mem_of_getElem? (i := 74) (by decide +kernel)) (by decide +kernel), m2 (List.mem_of_getElem? (i := 372) (by decide +kernel)) (by decide +kernel), ⟨by decide +kernel, by decide +kernel, by decide +kernel⟩, by decide⟩
theorem qm_X7_undo : (∃ (T : u_T) (N : Nat), vwCl[7]? = some (yX7_undo.cls, T, N)) ∧ 7 < 9 ∧ Cond.instanceMethod yX7_undo ∈ tb2 ∧ Cond.selects yX7_undo.cls yX7_undo yX7_undo ∈ tb2 ∧ Cond.initialized yX7_undo.cls ∈ tb2 ∧ Cond.code yX7_undo cX7_undo 3 (some .int) ∈ tb2 ∧ (yX7_undo.cls ≠ "java/lang/invoke/MethodHandle" ∧ yX7_undo.cls ≠ "java/lang/invoke/VarHandle" ∧ (parseMethodDescriptor yX7_undo.desc).map (fun d => d.parameters.length) = some 1) ∧ 3 ≤ 21 := ⟨⟨TX7, 16, rfl⟩, by decide, m2 (List.mem_of_getElem? (i := 437) (by decide +kernel)) (by decide +kernel), m2 (List.mem_of_getElem? (i := 438) (by decide +kernel)) (by decide +kernel), m2 (List.mem_of_getElem? (i := 74) (by decide +kernel)) (by decide +kernel), m2 (List.mem_of_getElem? (i := 439) (by decide +kernel)) (by decide +kernel), ⟨by decide +kernel, by decide +kernel, by decide +kernel⟩, by decide⟩
theorem qm_X7_walker : (∃ (T : u_T) (N : Nat), vwCl[7]? = some (yX7_walker.cls, T, N)) ∧ 7 < 9 ∧ Cond.instanceMethod yX7_walker ∈ tb2 ∧ Cond.selects yX7_walker.cls yX7_walker yX7_walker ∈ tb2 ∧ Cond.initialized yX7_walker.cls ∈ tb2 ∧ Cond.code yX7_walker cX7_walker 3 (some .int) ∈ tb2 ∧ (yX7_walker.cls ≠ "java/lang/invoke/MethodHandle" ∧ yX7_walker.cls ≠ "java/lang/invoke/VarHandle" ∧ (parseMethodDescriptor yX7_walker.desc).map (fun d => d.parameters.length) = some 2) ∧ 3 ≤ 21 := ⟨⟨TX7, 16, rfl⟩, by decide, m2 (List.mem_of_getElem? (i := 447) (by decide +kernel)) (by decide +kernel), m2 (List.mem_of_getElem? (i := 448) (by decide +kernel)) (by decide +kernel), m2 (List.mem_of_getElem? (i := 74) (by decide +kernel)) (by decide +kernel), m2 (List.mem_of_getElem? (i := 449) (by decide +kernel)) (by decide +kernel), ⟨by decide +kernel, by decide +kernel, by decide +kernel⟩, by decide⟩
theorem qm_X7_was : (∃ (T : u_T) (N : Nat), vwCl[7]? = some (yX7_was.cls, T, N)) ∧ 7 < 9 ∧ Cond.instanceMethod yX7_was ∈ tb2 ∧ Cond.selects yX7_was.cls yX7_was yX7_was ∈ tb2 ∧ Cond.initialized yX7_was.cls ∈ tb2 ∧ Cond.code yX7_was cX7_was 3 (some .int) ∈ tb2 ∧ (yX7_was.cls ≠ "java/lang/invoke/MethodHandle" ∧ yX7_was.cls ≠ "java/lang/invoke/VarHandle" ∧ (parseMethodDescriptor yX7_was.desc).map (fun d => d.parameters.length) = some 2) ∧ 3 ≤ 21 := ⟨⟨TX7, 16, rfl⟩, by decide, m2 (List.mem_of_getElem? (i := 675) (by decide +kernel)) (by decide +kernel), m2 (List.mem_of_getElem? (i := 676) (by decide +kernel)) (by decide +kernel), m2 (List.mem_of_getElem? (i := 74) (by decide +kernel)) (by decide +kernel), m2 (List.mem_of_getElem? (i := 677) (by decide +kernel)) (by decide +kernel), ⟨by decide +kernel, by decide +kernel, by decide +kernel⟩, by decide⟩
theorem qm_X7_weighOdds : (∃ (T : u_T) (N : Nat), vwCl[7]? = some (yX7_weighOdds.cls, T, N)) ∧ 7 < 9 ∧ Cond.instanceMethod yX7_weighOdds ∈ tb2 ∧ Cond.selects yX7_weighOdds.cls yX7_weighOdds yX7_weighOdds ∈ tb2 ∧ Cond.initialized yX7_weighOdds.cls ∈ tb2 ∧ Cond.code yX7_weighOdds cX7_weighOdds 2 none ∈ tb2 ∧ (yX7_weighOdds.cls ≠ "java/lang/invoke/MethodHandle" ∧ yX7_weighOdds.cls ≠ "java/lang/invoke/VarHandle" ∧ (parseMethodDescriptor yX7_weighOdds.desc).map (fun d => d.parameters.length) = some 0) ∧ 2 ≤ 21 := ⟨⟨TX7, 16, rfl⟩, by decide, m2 (List.mem_of_getElem? (i := 715) (by decide +kernel)) (by decide +kernel), m2 (List.mem_of_getElem? (i := 24) (by decide +kernel)) (by decide +kernel), m2 (List.mem_of_getElem? (i := 74) (by decide +kernel)) (by decide +kernel), m2 (List.mem_of_getElem? (i := 716) (by decide +kernel)) (by decide +kernel), ⟨by decide +kernel, by decide +kernel, by decide +kernel⟩, by decide⟩
theorem qm_X7_weightOf : (∃ (T : u_T) (N : Nat), vwCl[7]? = some (yX7_weightOf.cls, T, N)) ∧ 7 < 9 ∧ Cond.instanceMethod yX7_weightOf ∈ tb2 ∧ Cond.selects yX7_weightOf.cls yX7_weightOf yX7_weightOf ∈ tb2 ∧ Cond.initialized yX7_weightOf.cls ∈ tb2 ∧ Cond.code yX7_weightOf cX7_weightOf 6 (some .long) ∈ tb2 ∧ (yX7_weightOf.cls ≠ "java/lang/invoke/MethodHandle" ∧ yX7_weightOf.cls ≠ "java/lang/invoke/VarHandle" ∧ (parseMethodDescriptor yX7_weightOf.desc).map (fun d => d.parameters.length) = some 2) ∧ 6 ≤ 21 := ⟨⟨TX7, 16, rfl⟩, by decide, m2 (List.mem_of_getElem? (i := 723) (by decide +kernel)) (by decide +kernel), m2 (List.mem_of_getElem? (i := 25) (by decide +kernel)) (by decide +kernel), m2 (List.mem_of_getElem? (i := 74) (by decide +kernel)) (by decide +kernel), m2 (List.mem_of_getElem? (i := 724) (by decide +kernel)) (by decide +kernel), ⟨by decide +kernel, by decide +kernel, by decide +kernel⟩, by decide⟩
theorem qm_X7_who : (∃ (T : u_T) (N : Nat), vwCl[7]? = some (yX7_who.cls, T, N)) ∧ 7 < 9 ∧ Cond.instanceMethod yX7_who ∈ tb2 ∧ Cond.selects yX7_who.cls yX7_who yX7_who ∈ tb2 ∧ Cond.initialized yX7_who.cls ∈ tb2 ∧ Cond.code yX7_who cX7_who 2 (some .int) ∈ tb2 ∧ (yX7_who.cls ≠ "java/lang/invoke/MethodHandle" ∧ yX7_who.cls ≠ "java/lang/invoke/VarHandle" ∧ (parseMethodDescriptor yX7_who.desc).map (fun d => d.parameters.length) = some 1) ∧ 2 ≤ 21 := ⟨⟨TX7, 16, rfl⟩, by decide, m2 (List.mem_of_getElem? (i := 606) (by decide +kernel)) (by decide +kernel), m2 (List.mem_of_getElem? (i := 607) (by decide +kernel)) (by decide +kernel), m2 (List.mem_of_getElem? (i := 74) (by decide +kernel)) (by decide +kernel), m2 (List.mem_of_getElem? (i := 608) (by decide +kernel)) (by decide +kernel), ⟨by decide +kernel, by decide +kernel, by decide +kernel⟩, by decide⟩
theorem qm_X7_wipe : (∃ (T : u_T) (N : Nat), vwCl[7]? = some (yX7_wipe.cls, T, N)) ∧ 7 < 9 ∧ Cond.instanceMethod yX7_wipe ∈ tb2 ∧ Cond.selects yX7_wipe.cls yX7_wipe yX7_wipe ∈ tb2 ∧ Cond.initialized yX7_wipe.cls ∈ tb2 ∧ Cond.code yX7_wipe cX7_wipe 4 (some .int) ∈ tb2 ∧ (yX7_wipe.cls ≠ "java/lang/invoke/MethodHandle" ∧ yX7_wipe.cls ≠ "java/lang/invoke/VarHandle" ∧ (parseMethodDescriptor yX7_wipe.desc).map (fun d => d.parameters.length) = some 1) ∧ 4 ≤ 21 := ⟨⟨TX7, 16, rfl⟩, by decide, m2 (List.mem_of_getElem? (i := 433) (by decide +kernel)) (by decide +kernel), m2 (List.mem_of_getElem? (i := 434) (by decide +kernel)) (by decide +kernel), m2 (List.mem_of_getElem? (i := 74) (by decide +kernel)) (by decide +kernel), m2 (List.mem_of_getElem? (i := 435) (by decide +kernel)) (by decide +kernel), ⟨by decide +kernel, by decide +kernel, by decide +kernel⟩, by decide⟩
theorem qm_X7_wire : (∃ (T : u_T) (N : Nat), vwCl[7]? = some (yX7_wire.cls, T, N)) ∧ 7 < 9 ∧ Cond.instanceMethod yX7_wire ∈ tb2 ∧ Cond.selects yX7_wire.cls yX7_wire yX7_wire ∈ tb2 ∧ Cond.initialized yX7_wire.cls ∈ tb2 ∧ Cond.code yX7_wire cX7_wire 4 (some .int) ∈ tb2 ∧ (yX7_wire.cls ≠ "java/lang/invoke/MethodHandle" ∧ yX7_wire.cls ≠ "java/lang/invoke/VarHandle" ∧ (parseMethodDescriptor yX7_wire.desc).map (fun d => d.parameters.length) = some 2) ∧ 4 ≤ 21 := ⟨⟨TX7, 16, rfl⟩, by decide, m2 (List.mem_of_getElem? (i := 462) (by decide +kernel)) (by decide +kernel), m2 (List.mem_of_getElem? (i := 463) (by decide +kernel)) (by decide +kernel), m2 (List.mem_of_getElem? (i := 74) (by decide +kernel)) (by decide +kernel), m2 (List.mem_of_getElem? (i := 464) (by decide +kernel)) (by decide +kernel), ⟨by decide +kernel, by decide +kernel, by decide +kernel⟩, by decide⟩
theorem qm_X7_write : (∃ (T : u_T) (N : Nat), vwCl[7]? = some (yX7_write.cls, T, N)) ∧ 7 < 9 ∧ Cond.instanceMethod yX7_write ∈ tb2 ∧ Cond.selects yX7_write.cls yX7_write yX7_write ∈ tb2 ∧ Cond.initialized yX7_write.cls ∈ tb2 ∧ Cond.code yX7_write cX7_write 7 (some .int) ∈ tb2 ∧ (yX7_write.cls ≠ "java/lang/invoke/MethodHandle" ∧ yX7_write.cls ≠ "java/lang/invoke/VarHandle" ∧ (parseMethodDescriptor yX7_write.desc).map (fun d => d.parameters.length) = some 2) ∧ 7 ≤ 21 := ⟨⟨TX7, 16, rfl⟩, by decide, m2 (List.mem_of_getElem? (i := 780) (by decide +kernel)) (by decide +kernel), m2 (List.mem_of_getElem? (i := 781) (by decide +kernel)) (by decide +kernel), m2 (List.mem_of_getElem? (i := 74) (by decide +kernel)) (by decide +kernel), m2 (List.mem_of_getElem? (i := 782) (by decide +kernel)) (by decide +kernel), ⟨by decide +kernel, by decide +kernel, by decide +kernel⟩, by decide⟩
theorem qm_X8_act : (∃ (T : u_T) (N : Nat), vwCl[8]? = some (yX8_act.cls, T, N)) ∧ 8 < 9 ∧ Cond.instanceMethod yX8_act ∈ tb2 ∧ Cond.selects yX8_act.cls yX8_act yX8_act ∈ tb2 ∧ Cond.initialized yX8_act.cls ∈ tb2 ∧ Cond.code yX8_act cX8_act 3 (some .int) ∈ tb2 ∧ (yX8_act.cls ≠ "java/lang/invoke/MethodHandle" ∧ yX8_act.cls ≠ "java/lang/invoke/VarHandle" ∧ (parseMethodDescriptor yX8_act.desc).map (fun d => d.parameters.length) = some 2) ∧ 3 ≤ 21 := ⟨⟨TX8, 33, rfl⟩, by decide, m2 (List.mem_of_getElem? (i := 1189) (by decide +kernel)) (by decide +kernel), m2 (List.mem_of_getElem? (i := 1190) (by decide +kernel)) (by decide +kernel), m2 (List.mem_of_getElem? (i := 83) (by decide +kernel)) (by decide +kernel), m2 (List.mem_of_getElem? (i := 1191) (by decide +kernel)) (by decide +kernel), ⟨by decide +kernel, by decide +kernel, by decide +kernel⟩, by decide⟩
theorem qm_X8_actOf : (∃ (T : u_T) (N : Nat), vwCl[8]? = some (yX8_actOf.cls, T, N)) ∧ 8 < 9 ∧ Cond.instanceMethod yX8_actOf ∈ tb2 ∧ Cond.selects yX8_actOf.cls yX8_actOf yX8_actOf ∈ tb2 ∧ Cond.initialized yX8_actOf.cls ∈ tb2 ∧ Cond.code yX8_actOf cX8_actOf 8 (some .int) ∈ tb2 ∧ (yX8_actOf.cls ≠ "java/lang/invoke/MethodHandle" ∧ yX8_actOf.cls ≠ "java/lang/invoke/VarHandle" ∧ (parseMethodDescriptor yX8_actOf.desc).map (fun d => d.parameters.length) = some 2) ∧ 8 ≤ 21 := ⟨⟨TX8, 33, rfl⟩, by decide, m2 (List.mem_of_getElem? (i := 1194) (by decide +kernel)) (by decide +kernel), m2 (List.mem_of_getElem? (i := 57) (by decide +kernel)) (by decide +kernel), m2 (List.mem_of_getElem? (i := 83) (by decide +kernel)) (by decide +kernel), m2 (List.mem_of_getElem? (i := 1195) (by decide +kernel)) (by decide +kernel), ⟨by decide +kernel, by decide +kernel, by decide +kernel⟩, by decide⟩
theorem qm_X8_acting : (∃ (T : u_T) (N : Nat), vwCl[8]? = some (yX8_acting.cls, T, N)) ∧ 8 < 9 ∧ Cond.instanceMethod yX8_acting ∈ tb2 ∧ Cond.selects yX8_acting.cls yX8_acting yX8_acting ∈ tb2 ∧ Cond.initialized yX8_acting.cls ∈ tb2 ∧ Cond.code yX8_acting cX8_acting 4 none ∈ tb2 ∧ (yX8_acting.cls ≠ "java/lang/invoke/MethodHandle" ∧ yX8_acting.cls ≠ "java/lang/invoke/VarHandle" ∧ (parseMethodDescriptor yX8_acting.desc).map (fun d => d.parameters.length) = some 2) ∧ 4 ≤ 21 := ⟨⟨TX8, 33, rfl⟩, by decide, m2 (List.mem_of_getElem? (i := 1100) (by decide +kernel)) (by decide +kernel), m2 (List.mem_of_getElem? (i := 45) (by decide +kernel)) (by decide +kernel), m2 (List.mem_of_getElem? (i := 83) (by decide +kernel)) (by decide +kernel), m2 (List.mem_of_getElem? (i := 1101) (by decide +kernel)) (by decide +kernel), ⟨by decide +kernel, by decide +kernel, by decide +kernel⟩, by decide⟩
theorem qm_X8_alike : (∃ (T : u_T) (N : Nat), vwCl[8]? = some (yX8_alike.cls, T, N)) ∧ 8 < 9 ∧ Cond.instanceMethod yX8_alike ∈ tb2 ∧ Cond.selects yX8_alike.cls yX8_alike yX8_alike ∈ tb2 ∧ Cond.initialized yX8_alike.cls ∈ tb2 ∧ Cond.code yX8_alike cX8_alike 7 (some .int) ∈ tb2 ∧ (yX8_alike.cls ≠ "java/lang/invoke/MethodHandle" ∧ yX8_alike.cls ≠ "java/lang/invoke/VarHandle" ∧ (parseMethodDescriptor yX8_alike.desc).map (fun d => d.parameters.length) = some 2) ∧ 7 ≤ 21 := ⟨⟨TX8, 33, rfl⟩, by decide, m2 (List.mem_of_getElem? (i := 1260) (by decide +kernel)) (by decide +kernel), m2 (List.mem_of_getElem? (i := 67) (by decide +kernel)) (by decide +kernel), m2 (List.mem_of_getElem? (i := 83) (by decide +kernel)) (by decide +kernel), m2 (List.mem_of_getElem? (i := 1261) (by decide +kernel)) (by decide +kernel), ⟨by decide +kernel, by decide +kernel, by decide +kernel⟩, by decide⟩
theorem qm_X8_ask : (∃ (T : u_T) (N : Nat), vwCl[8]? = some (yX8_ask.cls, T, N)) ∧ 8 < 9 ∧ Cond.instanceMethod yX8_ask ∈ tb2 ∧ Cond.selects yX8_ask.cls yX8_ask yX8_ask ∈ tb2 ∧ Cond.initialized yX8_ask.cls ∈ tb2 ∧ Cond.code yX8_ask cX8_ask 2 (some .int) ∈ tb2 ∧ (yX8_ask.cls ≠ "java/lang/invoke/MethodHandle" ∧ yX8_ask.cls ≠ "java/lang/invoke/VarHandle" ∧ (parseMethodDescriptor yX8_ask.desc).map (fun d => d.parameters.length) = some 1) ∧ 2 ≤ 21 := ⟨⟨TX8, 33, rfl⟩, by decide, m2 (List.mem_of_getElem? (i := 1251) (by decide +kernel)) (by decide +kernel), m2 (List.mem_of_getElem? (i := 1252) (by decide +kernel)) (by decide +kernel), m2 (List.mem_of_getElem? (i := 83) (by decide +kernel)) (by decide +kernel), m2 (List.mem_of_getElem? (i := 1253) (by decide +kernel)) (by decide +kernel), ⟨by decide +kernel, by decide +kernel, by decide +kernel⟩, by decide⟩
theorem qm_X8_askOf : (∃ (T : u_T) (N : Nat), vwCl[8]? = some (yX8_askOf.cls, T, N)) ∧ 8 < 9 ∧ Cond.instanceMethod yX8_askOf ∈ tb2 ∧ Cond.selects yX8_askOf.cls yX8_askOf yX8_askOf ∈ tb2 ∧ Cond.initialized yX8_askOf.cls ∈ tb2 ∧ Cond.code yX8_askOf cX8_askOf 5 (some .int) ∈ tb2 ∧ (yX8_askOf.cls ≠ "java/lang/invoke/MethodHandle" ∧ yX8_askOf.cls ≠ "java/lang/invoke/VarHandle" ∧ (parseMethodDescriptor yX8_askOf.desc).map (fun d => d.parameters.length) = some 1) ∧ 5 ≤ 21 := ⟨⟨TX8, 33, rfl⟩, by decide, m2 (List.mem_of_getElem? (i := 1256) (by decide +kernel)) (by decide +kernel), m2 (List.mem_of_getElem? (i := 66) (by decide +kernel)) (by decide +kernel), m2 (List.mem_of_getElem? (i := 83) (by decide +kernel)) (by decide +kernel), m2 (List.mem_of_getElem? (i := 1257) (by decide +kernel)) (by decide +kernel), ⟨by decide +kernel, by decide +kernel, by decide +kernel⟩, by decide⟩
theorem qm_X8_at : (∃ (T : u_T) (N : Nat), vwCl[8]? = some (yX8_at.cls, T, N)) ∧ 8 < 9 ∧ Cond.instanceMethod yX8_at ∈ tb2 ∧ Cond.selects yX8_at.cls yX8_at yX8_at ∈ tb2 ∧ Cond.initialized yX8_at.cls ∈ tb2 ∧ Cond.code yX8_at cX8_at 4 (some .int) ∈ tb2 ∧ (yX8_at.cls ≠ "java/lang/invoke/MethodHandle" ∧ yX8_at.cls ≠ "java/lang/invoke/VarHandle" ∧ (parseMethodDescriptor yX8_at.desc).map (fun d => d.parameters.length) = some 3) ∧ 4 ≤ 21 := ⟨⟨TX8, 33, rfl⟩, by decide, m2 (List.mem_of_getElem? (i := 1068) (by decide +kernel)) (by decide +kernel), m2 (List.mem_of_getElem? (i := 1069) (by decide +kernel)) (by decide +kernel), m2 (List.mem_of_getElem? (i := 83) (by decide +kernel)) (by decide +kernel), m2 (List.mem_of_getElem? (i := 1070) (by decide +kernel)) (by decide +kernel), ⟨by decide +kernel, by decide +kernel, by decide +kernel⟩, by decide⟩
theorem qm_X8_back : (∃ (T : u_T) (N : Nat), vwCl[8]? = some (yX8_back.cls, T, N)) ∧ 8 < 9 ∧ Cond.instanceMethod yX8_back ∈ tb2 ∧ Cond.selects yX8_back.cls yX8_back yX8_back ∈ tb2 ∧ Cond.initialized yX8_back.cls ∈ tb2 ∧ Cond.code yX8_back cX8_back 1 (some .int) ∈ tb2 ∧ (yX8_back.cls ≠ "java/lang/invoke/MethodHandle" ∧ yX8_back.cls ≠ "java/lang/invoke/VarHandle" ∧ (parseMethodDescriptor yX8_back.desc).map (fun d => d.parameters.length) = some 0) ∧ 1 ≤ 21 := ⟨⟨TX8, 33, rfl⟩, by decide, m2 (List.mem_of_getElem? (i := 1059) (by decide +kernel)) (by decide +kernel), m2 (List.mem_of_getElem? (i := 1060) (by decide +kernel)) (by decide +kernel), m2 (List.mem_of_getElem? (i := 83) (by decide +kernel)) (by decide +kernel), m2 (List.mem_of_getElem? (i := 1061) (by decide +kernel)) (by decide +kernel), ⟨by decide +kernel, by decide +kernel, by decide +kernel⟩, by decide⟩
theorem qm_X8_bare : (∃ (T : u_T) (N : Nat), vwCl[8]? = some (yX8_bare.cls, T, N)) ∧ 8 < 9 ∧ Cond.instanceMethod yX8_bare ∈ tb2 ∧ Cond.selects yX8_bare.cls yX8_bare yX8_bare ∈ tb2 ∧ Cond.initialized yX8_bare.cls ∈ tb2 ∧ Cond.code yX8_bare cX8_bare 1 (some .int) ∈ tb2 ∧ (yX8_bare.cls ≠ "java/lang/invoke/MethodHandle" ∧ yX8_bare.cls ≠ "java/lang/invoke/VarHandle" ∧ (parseMethodDescriptor yX8_bare.desc).map (fun d => d.parameters.length) = some 0) ∧ 1 ≤ 21 := ⟨⟨TX8, 33, rfl⟩, by decide, m2 (List.mem_of_getElem? (i := 1169) (by decide +kernel)) (by decide +kernel), m2 (List.mem_of_getElem? (i := 1170) (by decide +kernel)) (by decide +kernel), m2 (List.mem_of_getElem? (i := 83) (by decide +kernel)) (by decide +kernel), m2 (List.mem_of_getElem? (i := 1171) (by decide +kernel)) (by decide +kernel), ⟨by decide +kernel, by decide +kernel, by decide +kernel⟩, by decide⟩
theorem qm_X8_bareNow : (∃ (T : u_T) (N : Nat), vwCl[8]? = some (yX8_bareNow.cls, T, N)) ∧ 8 < 9 ∧ Cond.instanceMethod yX8_bareNow ∈ tb2 ∧ Cond.selects yX8_bareNow.cls yX8_bareNow yX8_bareNow ∈ tb2 ∧ Cond.initialized yX8_bareNow.cls ∈ tb2 ∧ Cond.code yX8_bareNow cX8_bareNow 5 (some .int) ∈ tb2 ∧ (yX8_bareNow.cls ≠ "java/lang/invoke/MethodHandle" ∧ yX8_bareNow.cls ≠ "java/lang/invoke/VarHandle" ∧ (parseMethodDescriptor yX8_bareNow.desc).map (fun d => d.parameters.length) = some 0) ∧ 5 ≤ 21 := ⟨⟨TX8, 33, rfl⟩, by decide, m2 (List.mem_of_getElem? (i := 1174) (by decide +kernel)) (by decide +kernel), m2 (List.mem_of_getElem? (i := 55) (by decide +kernel)) (by decide +kernel), m2 (List.mem_of_getElem? (i := 83) (by decide +kernel)) (by decide +kernel), m2 (List.mem_of_getElem? (i := 1175) (by decide +kernel)) (by decide +kernel), ⟨by decide +kernel, by decide +kernel, by decide +kernel⟩, by decide⟩
theorem qm_X8_chance : (∃ (T : u_T) (N : Nat), vwCl[8]? = some (yX8_chance.cls, T, N)) ∧ 8 < 9 ∧ Cond.instanceMethod yX8_chance ∈ tb2 ∧ Cond.selects yX8_chance.cls yX8_chance yX8_chance ∈ tb2 ∧ Cond.initialized yX8_chance.cls ∈ tb2 ∧ Cond.code yX8_chance cX8_chance 4 (some .long) ∈ tb2 ∧ (yX8_chance.cls ≠ "java/lang/invoke/MethodHandle" ∧ yX8_chance.cls ≠ "java/lang/invoke/VarHandle" ∧ (parseMethodDescriptor yX8_chance.desc).map (fun d => d.parameters.length) = some 3) ∧ 4 ≤ 21 := ⟨⟨TX8, 33, rfl⟩, by decide, m2 (List.mem_of_getElem? (i := 1263) (by decide +kernel)) (by decide +kernel), m2 (List.mem_of_getElem? (i := 1264) (by decide +kernel)) (by decide +kernel), m2 (List.mem_of_getElem? (i := 83) (by decide +kernel)) (by decide +kernel), m2 (List.mem_of_getElem? (i := 1265) (by decide +kernel)) (by decide +kernel), ⟨by decide +kernel, by decide +kernel, by decide +kernel⟩, by decide⟩
theorem qm_X8_chanceOf : (∃ (T : u_T) (N : Nat), vwCl[8]? = some (yX8_chanceOf.cls, T, N)) ∧ 8 < 9 ∧ Cond.instanceMethod yX8_chanceOf ∈ tb2 ∧ Cond.selects yX8_chanceOf.cls yX8_chanceOf yX8_chanceOf ∈ tb2 ∧ Cond.initialized yX8_chanceOf.cls ∈ tb2 ∧ Cond.code yX8_chanceOf cX8_chanceOf 10 (some .long) ∈ tb2 ∧ (yX8_chanceOf.cls ≠ "java/lang/invoke/MethodHandle" ∧ yX8_chanceOf.cls ≠ "java/lang/invoke/VarHandle" ∧ (parseMethodDescriptor yX8_chanceOf.desc).map (fun d => d.parameters.length) = some 3) ∧ 10 ≤ 21 := ⟨⟨TX8, 33, rfl⟩, by decide, m2 (List.mem_of_getElem? (i := 1269) (by decide +kernel)) (by decide +kernel), m2 (List.mem_of_getElem? (i := 68) (by decide +kernel)) (by decide +kernel), m2 (List.mem_of_getElem? (i := 83) (by decide +kernel)) (by decide +kernel), m2 (List.mem_of_getElem? (i := 1270) (by decide +kernel)) (by decide +kernel), ⟨by decide +kernel, by decide +kernel, by decide +kernel⟩, by decide⟩
theorem qm_X8_copy : (∃ (T : u_T) (N : Nat), vwCl[8]? = some (yX8_copy.cls, T, N)) ∧ 8 < 9 ∧ Cond.instanceMethod yX8_copy ∈ tb2 ∧ Cond.selects yX8_copy.cls yX8_copy yX8_copy ∈ tb2 ∧ Cond.initialized yX8_copy.cls ∈ tb2 ∧ Cond.code yX8_copy cX8_copy 7 (some .int) ∈ tb2 ∧ (yX8_copy.cls ≠ "java/lang/invoke/MethodHandle" ∧ yX8_copy.cls ≠ "java/lang/invoke/VarHandle" ∧ (parseMethodDescriptor yX8_copy.desc).map (fun d => d.parameters.length) = some 5) ∧ 7 ≤ 21 := ⟨⟨TX8, 33, rfl⟩, by decide, m2 (List.mem_of_getElem? (i := 981) (by decide +kernel)) (by decide +kernel), m2 (List.mem_of_getElem? (i := 982) (by decide +kernel)) (by decide +kernel), m2 (List.mem_of_getElem? (i := 83) (by decide +kernel)) (by decide +kernel), m2 (List.mem_of_getElem? (i := 983) (by decide +kernel)) (by decide +kernel), ⟨by decide +kernel, by decide +kernel, by decide +kernel⟩, by decide⟩
theorem qm_X8_count : (∃ (T : u_T) (N : Nat), vwCl[8]? = some (yX8_count.cls, T, N)) ∧ 8 < 9 ∧ Cond.instanceMethod yX8_count ∈ tb2 ∧ Cond.selects yX8_count.cls yX8_count yX8_count ∈ tb2 ∧ Cond.initialized yX8_count.cls ∈ tb2 ∧ Cond.code yX8_count cX8_count 2 (some .int) ∈ tb2 ∧ (yX8_count.cls ≠ "java/lang/invoke/MethodHandle" ∧ yX8_count.cls ≠ "java/lang/invoke/VarHandle" ∧ (parseMethodDescriptor yX8_count.desc).map (fun d => d.parameters.length) = some 1) ∧ 2 ≤ 21 := ⟨⟨TX8, 33, rfl⟩, by decide, m2 (List.mem_of_getElem? (i := 1300) (by decide +kernel)) (by decide +kernel), m2 (List.mem_of_getElem? (i := 1301) (by decide +kernel)) (by decide +kernel), m2 (List.mem_of_getElem? (i := 83) (by decide +kernel)) (by decide +kernel), m2 (List.mem_of_getElem? (i := 1302) (by decide +kernel)) (by decide +kernel), ⟨by decide +kernel, by decide +kernel, by decide +kernel⟩, by decide⟩
theorem qm_X8_digest : (∃ (T : u_T) (N : Nat), vwCl[8]? = some (yX8_digest.cls, T, N)) ∧ 8 < 9 ∧ Cond.instanceMethod yX8_digest ∈ tb2 ∧ Cond.selects yX8_digest.cls yX8_digest yX8_digest ∈ tb2 ∧ Cond.initialized yX8_digest.cls ∈ tb2 ∧ Cond.code yX8_digest cX8_digest 4 (some .long) ∈ tb2 ∧ (yX8_digest.cls ≠ "java/lang/invoke/MethodHandle" ∧ yX8_digest.cls ≠ "java/lang/invoke/VarHandle" ∧ (parseMethodDescriptor yX8_digest.desc).map (fun d => d.parameters.length) = some 0) ∧ 4 ≤ 21 := ⟨⟨TX8, 33, rfl⟩, by decide, m2 (List.mem_of_getElem? (i := 1304) (by decide +kernel)) (by decide +kernel), m2 (List.mem_of_getElem? (i := 1305) (by decide +kernel)) (by decide +kernel), m2 (List.mem_of_getElem? (i := 83) (by decide +kernel)) (by decide +kernel), m2 (List.mem_of_getElem? (i := 1306) (by decide +kernel)) (by decide +kernel), ⟨by decide +kernel, by decide +kernel, by decide +kernel⟩, by decide⟩
theorem qm_X8_ends : (∃ (T : u_T) (N : Nat), vwCl[8]? = some (yX8_ends.cls, T, N)) ∧ 8 < 9 ∧ Cond.instanceMethod yX8_ends ∈ tb2 ∧ Cond.selects yX8_ends.cls yX8_ends yX8_ends ∈ tb2 ∧ Cond.initialized yX8_ends.cls ∈ tb2 ∧ Cond.code yX8_ends cX8_ends 3 (some .int) ∈ tb2 ∧ (yX8_ends.cls ≠ "java/lang/invoke/MethodHandle" ∧ yX8_ends.cls ≠ "java/lang/invoke/VarHandle" ∧ (parseMethodDescriptor yX8_ends.desc).map (fun d => d.parameters.length) = some 2) ∧ 3 ≤ 21 := ⟨⟨TX8, 33, rfl⟩, by decide, m2 (List.mem_of_getElem? (i := 1133) (by decide +kernel)) (by decide +kernel), m2 (List.mem_of_getElem? (i := 1134) (by decide +kernel)) (by decide +kernel), m2 (List.mem_of_getElem? (i := 83) (by decide +kernel)) (by decide +kernel), m2 (List.mem_of_getElem? (i := 1135) (by decide +kernel)) (by decide +kernel), ⟨by decide +kernel, by decide +kernel, by decide +kernel⟩, by decide⟩
theorem qm_X8_endsBy : (∃ (T : u_T) (N : Nat), vwCl[8]? = some (yX8_endsBy.cls, T, N)) ∧ 8 < 9 ∧ Cond.instanceMethod yX8_endsBy ∈ tb2 ∧ Cond.selects yX8_endsBy.cls yX8_endsBy yX8_endsBy ∈ tb2 ∧ Cond.initialized yX8_endsBy.cls ∈ tb2 ∧ Cond.code yX8_endsBy cX8_endsBy 3 (some .int) ∈ tb2 ∧ (yX8_endsBy.cls ≠ "java/lang/invoke/MethodHandle" ∧ yX8_endsBy.cls ≠ "java/lang/invoke/VarHandle" ∧ (parseMethodDescriptor yX8_endsBy.desc).map (fun d => d.parameters.length) = some 2) ∧ 3 ≤ 21 := ⟨⟨TX8, 33, rfl⟩, by decide, m2 (List.mem_of_getElem? (i := 1138) (by decide +kernel)) (by decide +kernel), m2 (List.mem_of_getElem? (i := 49) (by decide +kernel)) (by decide +kernel), m2 (List.mem_of_getElem? (i := 83) (by decide +kernel)) (by decide +kernel), m2 (List.mem_of_getElem? (i := 1139) (by decide +kernel)) (by decide +kernel), ⟨by decide +kernel, by decide +kernel, by decide +kernel⟩, by decide⟩
theorem qm_X8_event : (∃ (T : u_T) (N : Nat), vwCl[8]? = some (yX8_event.cls, T, N)) ∧ 8 < 9 ∧ Cond.instanceMethod yX8_event ∈ tb2 ∧ Cond.selects yX8_event.cls yX8_event yX8_event ∈ tb2 ∧ Cond.initialized yX8_event.cls ∈ tb2 ∧ Cond.code yX8_event cX8_event 4 (some .int) ∈ tb2 ∧ (yX8_event.cls ≠ "java/lang/invoke/MethodHandle" ∧ yX8_event.cls ≠ "java/lang/invoke/VarHandle" ∧ (parseMethodDescriptor yX8_event.desc).map (fun d => d.parameters.length) = some 3) ∧ 4 ≤ 21 := ⟨⟨TX8, 33, rfl⟩, by decide, m2 (List.mem_of_getElem? (i := 1055) (by decide +kernel)) (by decide +kernel), m2 (List.mem_of_getElem? (i := 1056) (by decide +kernel)) (by decide +kernel), m2 (List.mem_of_getElem? (i := 83) (by decide +kernel)) (by decide +kernel), m2 (List.mem_of_getElem? (i := 1057) (by decide +kernel)) (by decide +kernel), ⟨by decide +kernel, by decide +kernel, by decide +kernel⟩, by decide⟩
theorem qm_X8_fault : (∃ (T : u_T) (N : Nat), vwCl[8]? = some (yX8_fault.cls, T, N)) ∧ 8 < 9 ∧ Cond.instanceMethod yX8_fault ∈ tb2 ∧ Cond.selects yX8_fault.cls yX8_fault yX8_fault ∈ tb2 ∧ Cond.initialized yX8_fault.cls ∈ tb2 ∧ Cond.code yX8_fault cX8_fault 2 (some .int) ∈ tb2 ∧ (yX8_fault.cls ≠ "java/lang/invoke/MethodHandle" ∧ yX8_fault.cls ≠ "java/lang/invoke/VarHandle" ∧ (parseMethodDescriptor yX8_fault.desc).map (fun d => d.parameters.length) = some 1) ∧ 2 ≤ 21 := ⟨⟨TX8, 33, rfl⟩, by decide, m2 (List.mem_of_getElem? (i := 1001) (by decide +kernel)) (by decide +kernel), m2 (List.mem_of_getElem? (i := 1002) (by decide +kernel)) (by decide +kernel), m2 (List.mem_of_getElem? (i := 83) (by decide +kernel)) (by decide +kernel), m2 (List.mem_of_getElem? (i := 1003) (by decide +kernel)) (by decide +kernel), ⟨by decide +kernel, by decide +kernel, by decide +kernel⟩, by decide⟩
theorem qm_X8_find : (∃ (T : u_T) (N : Nat), vwCl[8]? = some (yX8_find.cls, T, N)) ∧ 8 < 9 ∧ Cond.instanceMethod yX8_find ∈ tb2 ∧ Cond.selects yX8_find.cls yX8_find yX8_find ∈ tb2 ∧ Cond.initialized yX8_find.cls ∈ tb2 ∧ Cond.code yX8_find cX8_find 1 none ∈ tb2 ∧ (yX8_find.cls ≠ "java/lang/invoke/MethodHandle" ∧ yX8_find.cls ≠ "java/lang/invoke/VarHandle" ∧ (parseMethodDescriptor yX8_find.desc).map (fun d => d.parameters.length) = some 0) ∧ 1 ≤ 21 := ⟨⟨TX8, 33, rfl⟩, by decide, m2 (List.mem_of_getElem? (i := 1073) (by decide +kernel)) (by decide +kernel), m2 (List.mem_of_getElem? (i := 39) (by decide +kernel)) (by decide +kernel), m2 (List.mem_of_getElem? (i := 83) (by decide +kernel)) (by decide +kernel), m2 (List.mem_of_getElem? (i := 1074) (by decide +kernel)) (by decide +kernel), ⟨by decide +kernel, by decide +kernel, by decide +kernel⟩, by decide⟩
theorem qm_X8_finds : (∃ (T : u_T) (N : Nat), vwCl[8]? = some (yX8_finds.cls, T, N)) ∧ 8 < 9 ∧ Cond.instanceMethod yX8_finds ∈ tb2 ∧ Cond.selects yX8_finds.cls yX8_finds yX8_finds ∈ tb2 ∧ Cond.initialized yX8_finds.cls ∈ tb2 ∧ Cond.code yX8_finds cX8_finds 2 (some .int) ∈ tb2 ∧ (yX8_finds.cls ≠ "java/lang/invoke/MethodHandle" ∧ yX8_finds.cls ≠ "java/lang/invoke/VarHandle" ∧ (parseMethodDescriptor yX8_finds.desc).map (fun d => d.parameters.length) = some 1) ∧ 2 ≤ 21 := ⟨⟨TX8, 33, rfl⟩, by decide, m2 (List.mem_of_getElem? (i := 958) (by decide +kernel)) (by decide +kernel), m2 (List.mem_of_getElem? (i := 32) (by decide +kernel)) (by decide +kernel), m2 (List.mem_of_getElem? (i := 83) (by decide +kernel)) (by decide +kernel), m2 (List.mem_of_getElem? (i := 959) (by decide +kernel)) (by decide +kernel), ⟨by decide +kernel, by decide +kernel, by decide +kernel⟩, by decide⟩
theorem qm_X8_firstNow : (∃ (T : u_T) (N : Nat), vwCl[8]? = some (yX8_firstNow.cls, T, N)) ∧ 8 < 9 ∧ Cond.instanceMethod yX8_firstNow ∈ tb2 ∧ Cond.selects yX8_firstNow.cls yX8_firstNow yX8_firstNow ∈ tb2 ∧ Cond.initialized yX8_firstNow.cls ∈ tb2 ∧ Cond.code yX8_firstNow cX8_firstNow 5 (some .int) ∈ tb2 ∧ (yX8_firstNow.cls ≠ "java/lang/invoke/MethodHandle" ∧ yX8_firstNow.cls ≠ "java/lang/invoke/VarHandle" ∧ (parseMethodDescriptor yX8_firstNow.desc).map (fun d => d.parameters.length) = some 0) ∧ 5 ≤ 21 := ⟨⟨TX8, 33, rfl⟩, by decide, m2 (List.mem_of_getElem? (i := 1162) (by decide +kernel)) (by decide +kernel), m2 (List.mem_of_getElem? (i := 53) (by decide +kernel)) (by decide +kernel), m2 (List.mem_of_getElem? (i := 83) (by decide +kernel)) (by decide +kernel), m2 (List.mem_of_getElem? (i := 1163) (by decide +kernel)) (by decide +kernel), ⟨by decide +kernel, by decide +kernel, by decide +kernel⟩, by decide⟩
theorem qm_X8_forget : (∃ (T : u_T) (N : Nat), vwCl[8]? = some (yX8_forget.cls, T, N)) ∧ 8 < 9 ∧ Cond.instanceMethod yX8_forget ∈ tb2 ∧ Cond.selects yX8_forget.cls yX8_forget yX8_forget ∈ tb2 ∧ Cond.initialized yX8_forget.cls ∈ tb2 ∧ Cond.code yX8_forget cX8_forget 2 (some .int) ∈ tb2 ∧ (yX8_forget.cls ≠ "java/lang/invoke/MethodHandle" ∧ yX8_forget.cls ≠ "java/lang/invoke/VarHandle" ∧ (parseMethodDescriptor yX8_forget.desc).map (fun d => d.parameters.length) = some 0) ∧ 2 ≤ 21 := ⟨⟨TX8, 33, rfl⟩, by decide, m2 (List.mem_of_getElem? (i := 1214) (by decide +kernel)) (by decide +kernel), m2 (List.mem_of_getElem? (i := 1215) (by decide +kernel)) (by decide +kernel), m2 (List.mem_of_getElem? (i := 83) (by decide +kernel)) (by decide +kernel), m2 (List.mem_of_getElem? (i := 1216) (by decide +kernel)) (by decide +kernel), ⟨by decide +kernel, by decide +kernel, by decide +kernel⟩, by decide⟩
theorem qm_X8_get : (∃ (T : u_T) (N : Nat), vwCl[8]? = some (yX8_get.cls, T, N)) ∧ 8 < 9 ∧ Cond.instanceMethod yX8_get ∈ tb2 ∧ Cond.selects yX8_get.cls yX8_get yX8_get ∈ tb2 ∧ Cond.initialized yX8_get.cls ∈ tb2 ∧ Cond.code yX8_get cX8_get 4 (some .int) ∈ tb2 ∧ (yX8_get.cls ≠ "java/lang/invoke/MethodHandle" ∧ yX8_get.cls ≠ "java/lang/invoke/VarHandle" ∧ (parseMethodDescriptor yX8_get.desc).map (fun d => d.parameters.length) = some 3) ∧ 4 ≤ 21 := ⟨⟨TX8, 33, rfl⟩, by decide, m2 (List.mem_of_getElem? (i := 976) (by decide +kernel)) (by decide +kernel), m2 (List.mem_of_getElem? (i := 977) (by decide +kernel)) (by decide +kernel), m2 (List.mem_of_getElem? (i := 83) (by decide +kernel)) (by decide +kernel), m2 (List.mem_of_getElem? (i := 978) (by decide +kernel)) (by decide +kernel), ⟨by decide +kernel, by decide +kernel, by decide +kernel⟩, by decide⟩
theorem qm_X8_goes : (∃ (T : u_T) (N : Nat), vwCl[8]? = some (yX8_goes.cls, T, N)) ∧ 8 < 9 ∧ Cond.instanceMethod yX8_goes ∈ tb2 ∧ Cond.selects yX8_goes.cls yX8_goes yX8_goes ∈ tb2 ∧ Cond.initialized yX8_goes.cls ∈ tb2 ∧ Cond.code yX8_goes cX8_goes 6 none ∈ tb2 ∧ (yX8_goes.cls ≠ "java/lang/invoke/MethodHandle" ∧ yX8_goes.cls ≠ "java/lang/invoke/VarHandle" ∧ (parseMethodDescriptor yX8_goes.desc).map (fun d => d.parameters.length) = some 2) ∧ 6 ≤ 21 := ⟨⟨TX8, 33, rfl⟩, by decide, m2 (List.mem_of_getElem? (i := 1104) (by decide +kernel)) (by decide +kernel), m2 (List.mem_of_getElem? (i := 46) (by decide +kernel)) (by decide +kernel), m2 (List.mem_of_getElem? (i := 83) (by decide +kernel)) (by decide +kernel), m2 (List.mem_of_getElem? (i := 1105) (by decide +kernel)) (by decide +kernel), ⟨by decide +kernel, by decide +kernel, by decide +kernel⟩, by decide⟩
theorem qm_X8_happens : (∃ (T : u_T) (N : Nat), vwCl[8]? = some (yX8_happens.cls, T, N)) ∧ 8 < 9 ∧ Cond.instanceMethod yX8_happens ∈ tb2 ∧ Cond.selects yX8_happens.cls yX8_happens yX8_happens ∈ tb2 ∧ Cond.initialized yX8_happens.cls ∈ tb2 ∧ Cond.code yX8_happens cX8_happens 4 none ∈ tb2 ∧ (yX8_happens.cls ≠ "java/lang/invoke/MethodHandle" ∧ yX8_happens.cls ≠ "java/lang/invoke/VarHandle" ∧ (parseMethodDescriptor yX8_happens.desc).map (fun d => d.parameters.length) = some 1) ∧ 4 ≤ 21 := ⟨⟨TX8, 33, rfl⟩, by decide, m2 (List.mem_of_getElem? (i := 1085) (by decide +kernel)) (by decide +kernel), m2 (List.mem_of_getElem? (i := 42) (by decide +kernel)) (by decide +kernel), m2 (List.mem_of_getElem? (i := 83) (by decide +kernel)) (by decide +kernel), m2 (List.mem_of_getElem? (i := 1086) (by decide +kernel)) (by decide +kernel), ⟨by decide +kernel, by decide +kernel, by decide +kernel⟩, by decide⟩
theorem qm_X8_hold : (∃ (T : u_T) (N : Nat), vwCl[8]? = some (yX8_hold.cls, T, N)) ∧ 8 < 9 ∧ Cond.instanceMethod yX8_hold ∈ tb2 ∧ Cond.selects yX8_hold.cls yX8_hold yX8_hold ∈ tb2 ∧ Cond.initialized yX8_hold.cls ∈ tb2 ∧ Cond.code yX8_hold cX8_hold 3 (some .int) ∈ tb2 ∧ (yX8_hold.cls ≠ "java/lang/invoke/MethodHandle" ∧ yX8_hold.cls ≠ "java/lang/invoke/VarHandle" ∧ (parseMethodDescriptor yX8_hold.desc).map (fun d => d.parameters.length) = some 2) ∧ 3 ≤ 21 := ⟨⟨TX8, 33, rfl⟩, by decide, m2 (List.mem_of_getElem? (i := 1185) (by decide +kernel)) (by decide +kernel), m2 (List.mem_of_getElem? (i := 1186) (by decide +kernel)) (by decide +kernel), m2 (List.mem_of_getElem? (i := 83) (by decide +kernel)) (by decide +kernel), m2 (List.mem_of_getElem? (i := 1187) (by decide +kernel)) (by decide +kernel), ⟨by decide +kernel, by decide +kernel, by decide +kernel⟩, by decide⟩
theorem qm_X8_isSeen : (∃ (T : u_T) (N : Nat), vwCl[8]? = some (yX8_isSeen.cls, T, N)) ∧ 8 < 9 ∧ Cond.instanceMethod yX8_isSeen ∈ tb2 ∧ Cond.selects yX8_isSeen.cls yX8_isSeen yX8_isSeen ∈ tb2 ∧ Cond.initialized yX8_isSeen.cls ∈ tb2 ∧ Cond.code yX8_isSeen cX8_isSeen 4 (some .boolean) ∈ tb2 ∧ (yX8_isSeen.cls ≠ "java/lang/invoke/MethodHandle" ∧ yX8_isSeen.cls ≠ "java/lang/invoke/VarHandle" ∧ (parseMethodDescriptor yX8_isSeen.desc).map (fun d => d.parameters.length) = some 0) ∧ 4 ≤ 21 := ⟨⟨TX8, 33, rfl⟩, by decide, m2 (List.mem_of_getElem? (i := 1227) (by decide +kernel)) (by decide +kernel), m2 (List.mem_of_getElem? (i := 61) (by decide +kernel)) (by decide +kernel), m2 (List.mem_of_getElem? (i := 83) (by decide +kernel)) (by decide +kernel), m2 (List.mem_of_getElem? (i := 1228) (by decide +kernel)) (by decide +kernel), ⟨by decide +kernel, by decide +kernel, by decide +kernel⟩, by decide⟩
theorem qm_X8_isSpared : (∃ (T : u_T) (N : Nat), vwCl[8]? = some (yX8_isSpared.cls, T, N)) ∧ 8 < 9 ∧ Cond.instanceMethod yX8_isSpared ∈ tb2 ∧ Cond.selects yX8_isSpared.cls yX8_isSpared yX8_isSpared ∈ tb2 ∧ Cond.initialized yX8_isSpared.cls ∈ tb2 ∧ Cond.code yX8_isSpared cX8_isSpared 2 (some .boolean) ∈ tb2 ∧ (yX8_isSpared.cls ≠ "java/lang/invoke/MethodHandle" ∧ yX8_isSpared.cls ≠ "java/lang/invoke/VarHandle" ∧ (parseMethodDescriptor yX8_isSpared.desc).map (fun d => d.parameters.length) = some 1) ∧ 2 ≤ 21 := ⟨⟨TX8, 33, rfl⟩, by decide, m2 (List.mem_of_getElem? (i := 1207) (by decide +kernel)) (by decide +kernel), m2 (List.mem_of_getElem? (i := 59) (by decide +kernel)) (by decide +kernel), m2 (List.mem_of_getElem? (i := 83) (by decide +kernel)) (by decide +kernel), m2 (List.mem_of_getElem? (i := 1208) (by decide +kernel)) (by decide +kernel), ⟨by decide +kernel, by decide +kernel, by decide +kernel⟩, by decide⟩
theorem qm_X8_isWalker : (∃ (T : u_T) (N : Nat), vwCl[8]? = some (yX8_isWalker.cls, T, N)) ∧ 8 < 9 ∧ Cond.instanceMethod yX8_isWalker ∈ tb2 ∧ Cond.selects yX8_isWalker.cls yX8_isWalker yX8_isWalker ∈ tb2 ∧ Cond.initialized yX8_isWalker.cls ∈ tb2 ∧ Cond.code yX8_isWalker cX8_isWalker 2 (some .boolean) ∈ tb2 ∧ (yX8_isWalker.cls ≠ "java/lang/invoke/MethodHandle" ∧ yX8_isWalker.cls ≠ "java/lang/invoke/VarHandle" ∧ (parseMethodDescriptor yX8_isWalker.desc).map (fun d => d.parameters.length) = some 1) ∧ 2 ≤ 21 := ⟨⟨TX8, 33, rfl⟩, by decide, m2 (List.mem_of_getElem? (i := 1033) (by decide +kernel)) (by decide +kernel), m2 (List.mem_of_getElem? (i := 38) (by decide +kernel)) (by decide +kernel), m2 (List.mem_of_getElem? (i := 83) (by decide +kernel)) (by decide +kernel), m2 (List.mem_of_getElem? (i := 1034) (by decide +kernel)) (by decide +kernel), ⟨by decide +kernel, by decide +kernel, by decide +kernel⟩, by decide⟩
theorem qm_X8_lacks : (∃ (T : u_T) (N : Nat), vwCl[8]? = some (yX8_lacks.cls, T, N)) ∧ 8 < 9 ∧ Cond.instanceMethod yX8_lacks ∈ tb2 ∧ Cond.selects yX8_lacks.cls yX8_lacks yX8_lacks ∈ tb2 ∧ Cond.initialized yX8_lacks.cls ∈ tb2 ∧ Cond.code yX8_lacks cX8_lacks 4 (some .int) ∈ tb2 ∧ (yX8_lacks.cls ≠ "java/lang/invoke/MethodHandle" ∧ yX8_lacks.cls ≠ "java/lang/invoke/VarHandle" ∧ (parseMethodDescriptor yX8_lacks.desc).map (fun d => d.parameters.length) = some 3) ∧ 4 ≤ 21 := ⟨⟨TX8, 33, rfl⟩, by decide, m2 (List.mem_of_getElem? (i := 970) (by decide +kernel)) (by decide +kernel), m2 (List.mem_of_getElem? (i := 33) (by decide +kernel)) (by decide +kernel), m2 (List.mem_of_getElem? (i := 83) (by decide +kernel)) (by decide +kernel), m2 (List.mem_of_getElem? (i := 971) (by decide +kernel)) (by decide +kernel), ⟨by decide +kernel, by decide +kernel, by decide +kernel⟩, by decide⟩
theorem qm_X8_lay : (∃ (T : u_T) (N : Nat), vwCl[8]? = some (yX8_lay.cls, T, N)) ∧ 8 < 9 ∧ Cond.instanceMethod yX8_lay ∈ tb2 ∧ Cond.selects yX8_lay.cls yX8_lay yX8_lay ∈ tb2 ∧ Cond.initialized yX8_lay.cls ∈ tb2 ∧ Cond.code yX8_lay cX8_lay 6 (some .int) ∈ tb2 ∧ (yX8_lay.cls ≠ "java/lang/invoke/MethodHandle" ∧ yX8_lay.cls ≠ "java/lang/invoke/VarHandle" ∧ (parseMethodDescriptor yX8_lay.desc).map (fun d => d.parameters.length) = some 4) ∧ 6 ≤ 21 := ⟨⟨TX8, 33, rfl⟩, by decide, m2 (List.mem_of_getElem? (i := 965) (by decide +kernel)) (by decide +kernel), m2 (List.mem_of_getElem? (i := 966) (by decide +kernel)) (by decide +kernel), m2 (List.mem_of_getElem? (i := 83) (by decide +kernel)) (by decide +kernel), m2 (List.mem_of_getElem? (i := 967) (by decide +kernel)) (by decide +kernel), ⟨by decide +kernel, by decide +kernel, by decide +kernel⟩, by decide⟩
theorem qm_X8_lean : (∃ (T : u_T) (N : Nat), vwCl[8]? = some (yX8_lean.cls, T, N)) ∧ 8 < 9 ∧ Cond.instanceMethod yX8_lean ∈ tb2 ∧ Cond.selects yX8_lean.cls yX8_lean yX8_lean ∈ tb2 ∧ Cond.initialized yX8_lean.cls ∈ tb2 ∧ Cond.code yX8_lean cX8_lean 3 (some .int) ∈ tb2 ∧ (yX8_lean.cls ≠ "java/lang/invoke/MethodHandle" ∧ yX8_lean.cls ≠ "java/lang/invoke/VarHandle" ∧ (parseMethodDescriptor yX8_lean.desc).map (fun d => d.parameters.length) = some 2) ∧ 3 ≤ 21 := ⟨⟨TX8, 33, rfl⟩, by decide, m2 (List.mem_of_getElem? (i := 1117) (by decide +kernel)) (by decide +kernel), m2 (List.mem_of_getElem? (i := 1118) (by decide +kernel)) (by decide +kernel), m2 (List.mem_of_getElem? (i := 83) (by decide +kernel)) (by decide +kernel), m2 (List.mem_of_getElem? (i := 1119) (by decide +kernel)) (by decide +kernel), ⟨by decide +kernel, by decide +kernel, by decide +kernel⟩, by decide⟩
theorem qm_X8_leans : (∃ (T : u_T) (N : Nat), vwCl[8]? = some (yX8_leans.cls, T, N)) ∧ 8 < 9 ∧ Cond.instanceMethod yX8_leans ∈ tb2 ∧ Cond.selects yX8_leans.cls yX8_leans yX8_leans ∈ tb2 ∧ Cond.initialized yX8_leans.cls ∈ tb2 ∧ Cond.code yX8_leans cX8_leans 3 none ∈ tb2 ∧ (yX8_leans.cls ≠ "java/lang/invoke/MethodHandle" ∧ yX8_leans.cls ≠ "java/lang/invoke/VarHandle" ∧ (parseMethodDescriptor yX8_leans.desc).map (fun d => d.parameters.length) = some 1) ∧ 3 ≤ 21 := ⟨⟨TX8, 33, rfl⟩, by decide, m2 (List.mem_of_getElem? (i := 1092) (by decide +kernel)) (by decide +kernel), m2 (List.mem_of_getElem? (i := 43) (by decide +kernel)) (by decide +kernel), m2 (List.mem_of_getElem? (i := 83) (by decide +kernel)) (by decide +kernel), m2 (List.mem_of_getElem? (i := 1093) (by decide +kernel)) (by decide +kernel), ⟨by decide +kernel, by decide +kernel, by decide +kernel⟩, by decide⟩
theorem qm_X8_lives : (∃ (T : u_T) (N : Nat), vwCl[8]? = some (yX8_lives.cls, T, N)) ∧ 8 < 9 ∧ Cond.instanceMethod yX8_lives ∈ tb2 ∧ Cond.selects yX8_lives.cls yX8_lives yX8_lives ∈ tb2 ∧ Cond.initialized yX8_lives.cls ∈ tb2 ∧ Cond.code yX8_lives cX8_lives 4 none ∈ tb2 ∧ (yX8_lives.cls ≠ "java/lang/invoke/MethodHandle" ∧ yX8_lives.cls ≠ "java/lang/invoke/VarHandle" ∧ (parseMethodDescriptor yX8_lives.desc).map (fun d => d.parameters.length) = some 0) ∧ 4 ≤ 21 := ⟨⟨TX8, 33, rfl⟩, by decide, m2 (List.mem_of_getElem? (i := 1077) (by decide +kernel)) (by decide +kernel), m2 (List.mem_of_getElem? (i := 40) (by decide +kernel)) (by decide +kernel), m2 (List.mem_of_getElem? (i := 83) (by decide +kernel)) (by decide +kernel), m2 (List.mem_of_getElem? (i := 1078) (by decide +kernel)) (by decide +kernel), ⟨by decide +kernel, by decide +kernel, by decide +kernel⟩, by decide⟩
theorem qm_X8_lose : (∃ (T : u_T) (N : Nat), vwCl[8]? = some (yX8_lose.cls, T, N)) ∧ 8 < 9 ∧ Cond.instanceMethod yX8_lose ∈ tb2 ∧ Cond.selects yX8_lose.cls yX8_lose yX8_lose ∈ tb2 ∧ Cond.initialized yX8_lose.cls ∈ tb2 ∧ Cond.code yX8_lose cX8_lose 2 (some .int) ∈ tb2 ∧ (yX8_lose.cls ≠ "java/lang/invoke/MethodHandle" ∧ yX8_lose.cls ≠ "java/lang/invoke/VarHandle" ∧ (parseMethodDescriptor yX8_lose.desc).map (fun d => d.parameters.length) = some 1) ∧ 2 ≤ 21 := ⟨⟨TX8, 33, rfl⟩, by decide, m2 (List.mem_of_getElem? (i := 961) (by decide +kernel)) (by decide +kernel), m2 (List.mem_of_getElem? (i := 962) (by decide +kernel)) (by decide +kernel), m2 (List.mem_of_getElem? (i := 83) (by decide +kernel)) (by decide +kernel), m2 (List.mem_of_getElem? (i := 963) (by decide +kernel)) (by decide +kernel), ⟨by decide +kernel, by decide +kernel, by decide +kernel⟩, by decide⟩
theorem qm_X8_lot : (∃ (T : u_T) (N : Nat), vwCl[8]? = some (yX8_lot.cls, T, N)) ∧ 8 < 9 ∧ Cond.instanceMethod yX8_lot ∈ tb2 ∧ Cond.selects yX8_lot.cls yX8_lot yX8_lot ∈ tb2 ∧ Cond.initialized yX8_lot.cls ∈ tb2 ∧ Cond.code yX8_lot cX8_lot 2 (some .int) ∈ tb2 ∧ (yX8_lot.cls ≠ "java/lang/invoke/MethodHandle" ∧ yX8_lot.cls ≠ "java/lang/invoke/VarHandle" ∧ (parseMethodDescriptor yX8_lot.desc).map (fun d => d.parameters.length) = some 1) ∧ 2 ≤ 21 := ⟨⟨TX8, 33, rfl⟩, by decide, m2 (List.mem_of_getElem? (i := 1289) (by decide +kernel)) (by decide +kernel), m2 (List.mem_of_getElem? (i := 70) (by decide +kernel)) (by decide +kernel), m2 (List.mem_of_getElem? (i := 83) (by decide +kernel)) (by decide +kernel), m2 (List.mem_of_getElem? (i := 1290) (by decide +kernel)) (by decide +kernel), ⟨by decide +kernel, by decide +kernel, by decide +kernel⟩, by decide⟩
theorem qm_X8_many : (∃ (T : u_T) (N : Nat), vwCl[8]? = some (yX8_many.cls, T, N)) ∧ 8 < 9 ∧ Cond.instanceMethod yX8_many ∈ tb2 ∧ Cond.selects yX8_many.cls yX8_many yX8_many ∈ tb2 ∧ Cond.initialized yX8_many.cls ∈ tb2 ∧ Cond.code yX8_many cX8_many 4 (some .int) ∈ tb2 ∧ (yX8_many.cls ≠ "java/lang/invoke/MethodHandle" ∧ yX8_many.cls ≠ "java/lang/invoke/VarHandle" ∧ (parseMethodDescriptor yX8_many.desc).map (fun d => d.parameters.length) = some 1) ∧ 4 ≤ 21 := ⟨⟨TX8, 33, rfl⟩, by decide, m2 (List.mem_of_getElem? (i := 1150) (by decide +kernel)) (by decide +kernel), m2 (List.mem_of_getElem? (i := 51) (by decide +kernel)) (by decide +kernel), m2 (List.mem_of_getElem? (i := 83) (by decide +kernel)) (by decide +kernel), m2 (List.mem_of_getElem? (i := 1151) (by decide +kernel)) (by decide +kernel), ⟨by decide +kernel, by decide +kernel, by decide +kernel⟩, by decide⟩
theorem qm_X8_moves : (∃ (T : u_T) (N : Nat), vwCl[8]? = some (yX8_moves.cls, T, N)) ∧ 8 < 9 ∧ Cond.instanceMethod yX8_moves ∈ tb2 ∧ Cond.selects yX8_moves.cls yX8_moves yX8_moves ∈ tb2 ∧ Cond.initialized yX8_moves.cls ∈ tb2 ∧ Cond.code yX8_moves cX8_moves 4 none ∈ tb2 ∧ (yX8_moves.cls ≠ "java/lang/invoke/MethodHandle" ∧ yX8_moves.cls ≠ "java/lang/invoke/VarHandle" ∧ (parseMethodDescriptor yX8_moves.desc).map (fun d => d.parameters.length) = some 2) ∧ 4 ≤ 21 := ⟨⟨TX8, 33, rfl⟩, by decide, m2 (List.mem_of_getElem? (i := 1096) (by decide +kernel)) (by decide +kernel), m2 (List.mem_of_getElem? (i := 44) (by decide +kernel)) (by decide +kernel), m2 (List.mem_of_getElem? (i := 83) (by decide +kernel)) (by decide +kernel), m2 (List.mem_of_getElem? (i := 1097) (by decide +kernel)) (by decide +kernel), ⟨by decide +kernel, by decide +kernel, by decide +kernel⟩, by decide⟩
theorem qm_X8_never : (∃ (T : u_T) (N : Nat), vwCl[8]? = some (yX8_never.cls, T, N)) ∧ 8 < 9 ∧ Cond.instanceMethod yX8_never ∈ tb2 ∧ Cond.selects yX8_never.cls yX8_never yX8_never ∈ tb2 ∧ Cond.initialized yX8_never.cls ∈ tb2 ∧ Cond.code yX8_never cX8_never 1 (some .int) ∈ tb2 ∧ (yX8_never.cls ≠ "java/lang/invoke/MethodHandle" ∧ yX8_never.cls ≠ "java/lang/invoke/VarHandle" ∧ (parseMethodDescriptor yX8_never.desc).map (fun d => d.parameters.length) = some 0) ∧ 1 ≤ 21 := ⟨⟨TX8, 33, rfl⟩, by decide, m2 (List.mem_of_getElem? (i := 1218) (by decide +kernel)) (by decide +kernel), m2 (List.mem_of_getElem? (i := 1219) (by decide +kernel)) (by decide +kernel), m2 (List.mem_of_getElem? (i := 83) (by decide +kernel)) (by decide +kernel), m2 (List.mem_of_getElem? (i := 1220) (by decide +kernel)) (by decide +kernel), ⟨by decide +kernel, by decide +kernel, by decide +kernel⟩, by decide⟩
theorem qm_X8_neverNow : (∃ (T : u_T) (N : Nat), vwCl[8]? = some (yX8_neverNow.cls, T, N)) ∧ 8 < 9 ∧ Cond.instanceMethod yX8_neverNow ∈ tb2 ∧ Cond.selects yX8_neverNow.cls yX8_neverNow yX8_neverNow ∈ tb2 ∧ Cond.initialized yX8_neverNow.cls ∈ tb2 ∧ Cond.code yX8_neverNow cX8_neverNow 3 (some .int) ∈ tb2 ∧ (yX8_neverNow.cls ≠ "java/lang/invoke/MethodHandle" ∧ yX8_neverNow.cls ≠ "java/lang/invoke/VarHandle" ∧ (parseMethodDescriptor yX8_neverNow.desc).map (fun d => d.parameters.length) = some 0) ∧ 3 ≤ 21 := ⟨⟨TX8, 33, rfl⟩, by decide, m2 (List.mem_of_getElem? (i := 1223) (by decide +kernel)) (by decide +kernel), m2 (List.mem_of_getElem? (i := 60) (by decide +kernel)) (by decide +kernel), m2 (List.mem_of_getElem? (i := 83) (by decide +kernel)) (by decide +kernel), m2 (List.mem_of_getElem? (i := 1224) (by decide +kernel)) (by decide +kernel), ⟨by decide +kernel, by decide +kernel, by decide +kernel⟩, by decide⟩
theorem qm_X8_passes : (∃ (T : u_T) (N : Nat), vwCl[8]? = some (yX8_passes.cls, T, N)) ∧ 8 < 9 ∧ Cond.instanceMethod yX8_passes ∈ tb2 ∧ Cond.selects yX8_passes.cls yX8_passes yX8_passes ∈ tb2 ∧ Cond.initialized yX8_passes.cls ∈ tb2 ∧ Cond.code yX8_passes cX8_passes 7 none ∈ tb2 ∧ (yX8_passes.cls ≠ "java/lang/invoke/MethodHandle" ∧ yX8_passes.cls ≠ "java/lang/invoke/VarHandle" ∧ (parseMethodDescriptor yX8_passes.desc).map (fun d => d.parameters.length) = some 2) ∧ 7 ≤ 21 := ⟨⟨TX8, 33, rfl⟩, by decide, m2 (List.mem_of_getElem? (i := 1081) (by decide +kernel)) (by decide +kernel), m2 (List.mem_of_getElem? (i := 41) (by decide +kernel)) (by decide +kernel), m2 (List.mem_of_getElem? (i := 83) (by decide +kernel)) (by decide +kernel), m2 (List.mem_of_getElem? (i := 1082) (by decide +kernel)) (by decide +kernel), ⟨by decide +kernel, by decide +kernel, by decide +kernel⟩, by decide⟩
theorem qm_X8_plain : (∃ (T : u_T) (N : Nat), vwCl[8]? = some (yX8_plain.cls, T, N)) ∧ 8 < 9 ∧ Cond.instanceMethod yX8_plain ∈ tb2 ∧ Cond.selects yX8_plain.cls yX8_plain yX8_plain ∈ tb2 ∧ Cond.initialized yX8_plain.cls ∈ tb2 ∧ Cond.code yX8_plain cX8_plain 2 none ∈ tb2 ∧ (yX8_plain.cls ≠ "java/lang/invoke/MethodHandle" ∧ yX8_plain.cls ≠ "java/lang/invoke/VarHandle" ∧ (parseMethodDescriptor yX8_plain.desc).map (fun d => d.parameters.length) = some 0) ∧ 2 ≤ 21 := ⟨⟨TX8, 33, rfl⟩, by decide, m2 (List.mem_of_getElem? (i := 1025) (by decide +kernel)) (by decide +kernel), m2 (List.mem_of_getElem? (i := 37) (by decide +kernel)) (by decide +kernel), m2 (List.mem_of_getElem? (i := 83) (by decide +kernel)) (by decide +kernel), m2 (List.mem_of_getElem? (i := 1026) (by decide +kernel)) (by decide +kernel), ⟨by decide +kernel, by decide +kernel, by decide +kernel⟩, by decide⟩
theorem qm_X8_polesOf : (∃ (T : u_T) (N : Nat), vwCl[8]? = some (yX8_polesOf.cls, T, N)) ∧ 8 < 9 ∧ Cond.instanceMethod yX8_polesOf ∈ tb2 ∧ Cond.selects yX8_polesOf.cls yX8_polesOf yX8_polesOf ∈ tb2 ∧ Cond.initialized yX8_polesOf.cls ∈ tb2 ∧ Cond.code yX8_polesOf cX8_polesOf 7 (some .int) ∈ tb2 ∧ (yX8_polesOf.cls ≠ "java/lang/invoke/MethodHandle" ∧ yX8_polesOf.cls ≠ "java/lang/invoke/VarHandle" ∧ (parseMethodDescriptor yX8_polesOf.desc).map (fun d => d.parameters.length) = some 1) ∧ 7 ≤ 21 := ⟨⟨TX8, 33, rfl⟩, by decide, m2 (List.mem_of_getElem? (i := 1239) (by decide +kernel)) (by decide +kernel), m2 (List.mem_of_getElem? (i := 63) (by decide +kernel)) (by decide +kernel), m2 (List.mem_of_getElem? (i := 83) (by decide +kernel)) (by decide +kernel), m2 (List.mem_of_getElem? (i := 1240) (by decide +kernel)) (by decide +kernel), ⟨by decide +kernel, by decide +kernel, by decide +kernel⟩, by decide⟩
theorem qm_X8_read : (∃ (T : u_T) (N : Nat), vwCl[8]? = some (yX8_read.cls, T, N)) ∧ 8 < 9 ∧ Cond.instanceMethod yX8_read ∈ tb2 ∧ Cond.selects yX8_read.cls yX8_read yX8_read ∈ tb2 ∧ Cond.initialized yX8_read.cls ∈ tb2 ∧ Cond.code yX8_read cX8_read 5 (some .int) ∈ tb2 ∧ (yX8_read.cls ≠ "java/lang/invoke/MethodHandle" ∧ yX8_read.cls ≠ "java/lang/invoke/VarHandle" ∧ (parseMethodDescriptor yX8_read.desc).map (fun d => d.parameters.length) = some 1) ∧ 5 ≤ 21 := ⟨⟨TX8, 33, rfl⟩, by decide, m2 (List.mem_of_getElem? (i := 1063) (by decide +kernel)) (by decide +kernel), m2 (List.mem_of_getElem? (i := 1064) (by decide +kernel)) (by decide +kernel), m2 (List.mem_of_getElem? (i := 83) (by decide +kernel)) (by decide +kernel), m2 (List.mem_of_getElem? (i := 1065) (by decide +kernel)) (by decide +kernel), ⟨by decide +kernel, by decide +kernel, by decide +kernel⟩, by decide⟩
theorem qm_X8_readsRoutine : (∃ (T : u_T) (N : Nat), vwCl[8]? = some (yX8_readsRoutine.cls, T, N)) ∧ 8 < 9 ∧ Cond.instanceMethod yX8_readsRoutine ∈ tb2 ∧ Cond.selects yX8_readsRoutine.cls yX8_readsRoutine yX8_readsRoutine ∈ tb2 ∧ Cond.initialized yX8_readsRoutine.cls ∈ tb2 ∧ Cond.code yX8_readsRoutine cX8_readsRoutine 4 (some .int) ∈ tb2 ∧ (yX8_readsRoutine.cls ≠ "java/lang/invoke/MethodHandle" ∧ yX8_readsRoutine.cls ≠ "java/lang/invoke/VarHandle" ∧ (parseMethodDescriptor yX8_readsRoutine.desc).map (fun d => d.parameters.length) = some 0) ∧ 4 ≤ 21 := ⟨⟨TX8, 33, rfl⟩, by decide, m2 (List.mem_of_getElem? (i := 1021) (by decide +kernel)) (by decide +kernel), m2 (List.mem_of_getElem? (i := 36) (by decide +kernel)) (by decide +kernel), m2 (List.mem_of_getElem? (i := 83) (by decide +kernel)) (by decide +kernel), m2 (List.mem_of_getElem? (i := 1022) (by decide +kernel)) (by decide +kernel), ⟨by decide +kernel, by decide +kernel, by decide +kernel⟩, by decide⟩
theorem qm_X8_readsText : (∃ (T : u_T) (N : Nat), vwCl[8]? = some (yX8_readsText.cls, T, N)) ∧ 8 < 9 ∧ Cond.instanceMethod yX8_readsText ∈ tb2 ∧ Cond.selects yX8_readsText.cls yX8_readsText yX8_readsText ∈ tb2 ∧ Cond.initialized yX8_readsText.cls ∈ tb2 ∧ Cond.code yX8_readsText cX8_readsText 2 (some .int) ∈ tb2 ∧ (yX8_readsText.cls ≠ "java/lang/invoke/MethodHandle" ∧ yX8_readsText.cls ≠ "java/lang/invoke/VarHandle" ∧ (parseMethodDescriptor yX8_readsText.desc).map (fun d => d.parameters.length) = some 1) ∧ 2 ≤ 21 := ⟨⟨TX8, 33, rfl⟩, by decide, m2 (List.mem_of_getElem? (i := 1006) (by decide +kernel)) (by decide +kernel), m2 (List.mem_of_getElem? (i := 34) (by decide +kernel)) (by decide +kernel), m2 (List.mem_of_getElem? (i := 83) (by decide +kernel)) (by decide +kernel), m2 (List.mem_of_getElem? (i := 1007) (by decide +kernel)) (by decide +kernel), ⟨by decide +kernel, by decide +kernel, by decide +kernel⟩, by decide⟩
theorem qm_X8_readsWalkers : (∃ (T : u_T) (N : Nat), vwCl[8]? = some (yX8_readsWalkers.cls, T, N)) ∧ 8 < 9 ∧ Cond.instanceMethod yX8_readsWalkers ∈ tb2 ∧ Cond.selects yX8_readsWalkers.cls yX8_readsWalkers yX8_readsWalkers ∈ tb2 ∧ Cond.initialized yX8_readsWalkers.cls ∈ tb2 ∧ Cond.code yX8_readsWalkers cX8_readsWalkers 5 (some .int) ∈ tb2 ∧ (yX8_readsWalkers.cls ≠ "java/lang/invoke/MethodHandle" ∧ yX8_readsWalkers.cls ≠ "java/lang/invoke/VarHandle" ∧ (parseMethodDescriptor yX8_readsWalkers.desc).map (fun d => d.parameters.length) = some 0) ∧ 5 ≤ 21 := ⟨⟨TX8, 33, rfl⟩, by decide, m2 (List.mem_of_getElem? (i := 1010) (by decide +kernel)) (by decide +kernel), m2 (List.mem_of_getElem? (i := 35) (by decide +kernel)) (by decide +kernel), m2 (List.mem_of_getElem? (i := 83) (by decide +kernel)) (by decide +kernel), m2 (List.mem_of_getElem? (i := 1011) (by decide +kernel)) (by decide +kernel), ⟨by decide +kernel, by decide +kernel, by decide +kernel⟩, by decide⟩
theorem qm_X8_routine : (∃ (T : u_T) (N : Nat), vwCl[8]? = some (yX8_routine.cls, T, N)) ∧ 8 < 9 ∧ Cond.instanceMethod yX8_routine ∈ tb2 ∧ Cond.selects yX8_routine.cls yX8_routine yX8_routine ∈ tb2 ∧ Cond.initialized yX8_routine.cls ∈ tb2 ∧ Cond.code yX8_routine cX8_routine 2 (some .int) ∈ tb2 ∧ (yX8_routine.cls ≠ "java/lang/invoke/MethodHandle" ∧ yX8_routine.cls ≠ "java/lang/invoke/VarHandle" ∧ (parseMethodDescriptor yX8_routine.desc).map (fun d => d.parameters.length) = some 1) ∧ 2 ≤ 21 := ⟨⟨TX8, 33, rfl⟩, by decide, m2 (List.mem_of_getElem? (i := 1036) (by decide +kernel)) (by decide +kernel), m2 (List.mem_of_getElem? (i := 1037) (by decide +kernel)) (by decide +kernel), m2 (List.mem_of_getElem? (i := 83) (by decide +kernel)) (by decide +kernel), m2 (List.mem_of_getElem? (i := 1038) (by decide +kernel)) (by decide +kernel), ⟨by decide +kernel, by decide +kernel, by decide +kernel⟩, by decide⟩
theorem qm_X8_rowOf : (∃ (T : u_T) (N : Nat), vwCl[8]? = some (yX8_rowOf.cls, T, N)) ∧ 8 < 9 ∧ Cond.instanceMethod yX8_rowOf ∈ tb2 ∧ Cond.selects yX8_rowOf.cls yX8_rowOf yX8_rowOf ∈ tb2 ∧ Cond.initialized yX8_rowOf.cls ∈ tb2 ∧ Cond.code yX8_rowOf cX8_rowOf 5 (some .long) ∈ tb2 ∧ (yX8_rowOf.cls ≠ "java/lang/invoke/MethodHandle" ∧ yX8_rowOf.cls ≠ "java/lang/invoke/VarHandle" ∧ (parseMethodDescriptor yX8_rowOf.desc).map (fun d => d.parameters.length) = some 1) ∧ 5 ≤ 21 := ⟨⟨TX8, 33, rfl⟩, by decide, m2 (List.mem_of_getElem? (i := 1243) (by decide +kernel)) (by decide +kernel), m2 (List.mem_of_getElem? (i := 64) (by decide +kernel)) (by decide +kernel), m2 (List.mem_of_getElem? (i := 83) (by decide +kernel)) (by decide +kernel), m2 (List.mem_of_getElem? (i := 1244) (by decide +kernel)) (by decide +kernel), ⟨by decide +kernel, by decide +kernel, by decide +kernel⟩, by decide⟩
theorem qm_X8_seen : (∃ (T : u_T) (N : Nat), vwCl[8]? = some (yX8_seen.cls, T, N)) ∧ 8 < 9 ∧ Cond.instanceMethod yX8_seen ∈ tb2 ∧ Cond.selects yX8_seen.cls yX8_seen yX8_seen ∈ tb2 ∧ Cond.initialized yX8_seen.cls ∈ tb2 ∧ Cond.code yX8_seen cX8_seen 4 (some .int) ∈ tb2 ∧ (yX8_seen.cls ≠ "java/lang/invoke/MethodHandle" ∧ yX8_seen.cls ≠ "java/lang/invoke/VarHandle" ∧ (parseMethodDescriptor yX8_seen.desc).map (fun d => d.parameters.length) = some 3) ∧ 4 ≤ 21 := ⟨⟨TX8, 33, rfl⟩, by decide, m2 (List.mem_of_getElem? (i := 1210) (by decide +kernel)) (by decide +kernel), m2 (List.mem_of_getElem? (i := 1211) (by decide +kernel)) (by decide +kernel), m2 (List.mem_of_getElem? (i := 83) (by decide +kernel)) (by decide +kernel), m2 (List.mem_of_getElem? (i := 1212) (by decide +kernel)) (by decide +kernel), ⟨by decide +kernel, by decide +kernel, by decide +kernel⟩, by decide⟩
theorem qm_X8_sees : (∃ (T : u_T) (N : Nat), vwCl[8]? = some (yX8_sees.cls, T, N)) ∧ 8 < 9 ∧ Cond.instanceMethod yX8_sees ∈ tb2 ∧ Cond.selects yX8_sees.cls yX8_sees yX8_sees ∈ tb2 ∧ Cond.initialized yX8_sees.cls ∈ tb2 ∧ Cond.code yX8_sees cX8_sees 3 (some .int) ∈ tb2 ∧ (yX8_sees.cls ≠ "java/lang/invoke/MethodHandle" ∧ yX8_sees.cls ≠ "java/lang/invoke/VarHandle" ∧ (parseMethodDescriptor yX8_sees.desc).map (fun d => d.parameters.length) = some 2) ∧ 3 ≤ 21 := ⟨⟨TX8, 33, rfl⟩, by decide, m2 (List.mem_of_getElem? (i := 1121) (by decide +kernel)) (by decide +kernel), m2 (List.mem_of_getElem? (i := 1122) (by decide +kernel)) (by decide +kernel), m2 (List.mem_of_getElem? (i := 83) (by decide +kernel)) (by decide +kernel), m2 (List.mem_of_getElem? (i := 1123) (by decide +kernel)) (by decide +kernel), ⟨by decide +kernel, by decide +kernel, by decide +kernel⟩, by decide⟩
theorem qm_X8_seesBy : (∃ (T : u_T) (N : Nat), vwCl[8]? = some (yX8_seesBy.cls, T, N)) ∧ 8 < 9 ∧ Cond.instanceMethod yX8_seesBy ∈ tb2 ∧ Cond.selects yX8_seesBy.cls yX8_seesBy yX8_seesBy ∈ tb2 ∧ Cond.initialized yX8_seesBy.cls ∈ tb2 ∧ Cond.code yX8_seesBy cX8_seesBy 5 (some .int) ∈ tb2 ∧ (yX8_seesBy.cls ≠ "java/lang/invoke/MethodHandle" ∧ yX8_seesBy.cls ≠ "java/lang/invoke/VarHandle" ∧ (parseMethodDescriptor yX8_seesBy.desc).map (fun d => d.parameters.length) = some 2) ∧ 5 ≤ 21 := ⟨⟨TX8, 33, rfl⟩, by decide, m2 (List.mem_of_getElem? (i := 1126) (by decide +kernel)) (by decide +kernel), m2 (List.mem_of_getElem? (i := 48) (by decide +kernel)) (by decide +kernel), m2 (List.mem_of_getElem? (i := 83) (by decide +kernel)) (by decide +kernel), m2 (List.mem_of_getElem? (i := 1127) (by decide +kernel)) (by decide +kernel), ⟨by decide +kernel, by decide +kernel, by decide +kernel⟩, by decide⟩
theorem qm_X8_sheet : (∃ (T : u_T) (N : Nat), vwCl[8]? = some (yX8_sheet.cls, T, N)) ∧ 8 < 9 ∧ Cond.instanceMethod yX8_sheet ∈ tb2 ∧ Cond.selects yX8_sheet.cls yX8_sheet yX8_sheet ∈ tb2 ∧ Cond.initialized yX8_sheet.cls ∈ tb2 ∧ Cond.code yX8_sheet cX8_sheet 5 (some .int) ∈ tb2 ∧ (yX8_sheet.cls ≠ "java/lang/invoke/MethodHandle" ∧ yX8_sheet.cls ≠ "java/lang/invoke/VarHandle" ∧ (parseMethodDescriptor yX8_sheet.desc).map (fun d => d.parameters.length) = some 3) ∧ 5 ≤ 21 := ⟨⟨TX8, 33, rfl⟩, by decide, m2 (List.mem_of_getElem? (i := 945) (by decide +kernel)) (by decide +kernel), m2 (List.mem_of_getElem? (i := 946) (by decide +kernel)) (by decide +kernel), m2 (List.mem_of_getElem? (i := 83) (by decide +kernel)) (by decide +kernel), m2 (List.mem_of_getElem? (i := 947) (by decide +kernel)) (by decide +kernel), ⟨by decide +kernel, by decide +kernel, by decide +kernel⟩, by decide⟩
theorem qm_X8_shows : (∃ (T : u_T) (N : Nat), vwCl[8]? = some (yX8_shows.cls, T, N)) ∧ 8 < 9 ∧ Cond.instanceMethod yX8_shows ∈ tb2 ∧ Cond.selects yX8_shows.cls yX8_shows yX8_shows ∈ tb2 ∧ Cond.initialized yX8_shows.cls ∈ tb2 ∧ Cond.code yX8_shows cX8_shows 4 (some .int) ∈ tb2 ∧ (yX8_shows.cls ≠ "java/lang/invoke/MethodHandle" ∧ yX8_shows.cls ≠ "java/lang/invoke/VarHandle" ∧ (parseMethodDescriptor yX8_shows.desc).map (fun d => d.parameters.length) = some 3) ∧ 4 ≤ 21 := ⟨⟨TX8, 33, rfl⟩, by decide, m2 (List.mem_of_getElem? (i := 1279) (by decide +kernel)) (by decide +kernel), m2 (List.mem_of_getElem? (i := 1280) (by decide +kernel)) (by decide +kernel), m2 (List.mem_of_getElem? (i := 83) (by decide +kernel)) (by decide +kernel), m2 (List.mem_of_getElem? (i := 1281) (by decide +kernel)) (by decide +kernel), ⟨by decide +kernel, by decide +kernel, by decide +kernel⟩, by decide⟩
theorem qm_X8_showsOf : (∃ (T : u_T) (N : Nat), vwCl[8]? = some (yX8_showsOf.cls, T, N)) ∧ 8 < 9 ∧ Cond.instanceMethod yX8_showsOf ∈ tb2 ∧ Cond.selects yX8_showsOf.cls yX8_showsOf yX8_showsOf ∈ tb2 ∧ Cond.initialized yX8_showsOf.cls ∈ tb2 ∧ Cond.code yX8_showsOf cX8_showsOf 5 (some .int) ∈ tb2 ∧ (yX8_showsOf.cls ≠ "java/lang/invoke/MethodHandle" ∧ yX8_showsOf.cls ≠ "java/lang/invoke/VarHandle" ∧ (parseMethodDescriptor yX8_showsOf.desc).map (fun d => d.parameters.length) = some 3) ∧ 5 ≤ 21 := ⟨⟨TX8, 33, rfl⟩, by decide, m2 (List.mem_of_getElem? (i := 1285) (by decide +kernel)) (by decide +kernel), m2 (List.mem_of_getElem? (i := 69) (by decide +kernel)) (by decide +kernel), m2 (List.mem_of_getElem? (i := 83) (by decide +kernel)) (by decide +kernel), m2 (List.mem_of_getElem? (i := 1286) (by decide +kernel)) (by decide +kernel), ⟨by decide +kernel, by decide +kernel, by decide +kernel⟩, by decide⟩
theorem qm_X8_sortOf : (∃ (T : u_T) (N : Nat), vwCl[8]? = some (yX8_sortOf.cls, T, N)) ∧ 8 < 9 ∧ Cond.instanceMethod yX8_sortOf ∈ tb2 ∧ Cond.selects yX8_sortOf.cls yX8_sortOf yX8_sortOf ∈ tb2 ∧ Cond.initialized yX8_sortOf.cls ∈ tb2 ∧ Cond.code yX8_sortOf cX8_sortOf 6 (some .int) ∈ tb2 ∧ (yX8_sortOf.cls ≠ "java/lang/invoke/MethodHandle" ∧ yX8_sortOf.cls ≠ "java/lang/invoke/VarHandle" ∧ (parseMethodDescriptor yX8_sortOf.desc).map (fun d => d.parameters.length) = some 1) ∧ 6 ≤ 21 := ⟨⟨TX8, 33, rfl⟩, by decide, m2 (List.mem_of_getElem? (i := 1248) (by decide +kernel)) (by decide +kernel), m2 (List.mem_of_getElem? (i := 65) (by decide +kernel)) (by decide +kernel), m2 (List.mem_of_getElem? (i := 83) (by decide +kernel)) (by decide +kernel), m2 (List.mem_of_getElem? (i := 1249) (by decide +kernel)) (by decide +kernel), ⟨by decide +kernel, by decide +kernel, by decide +kernel⟩, by decide⟩
theorem qm_X8_spare : (∃ (T : u_T) (N : Nat), vwCl[8]? = some (yX8_spare.cls, T, N)) ∧ 8 < 9 ∧ Cond.instanceMethod yX8_spare ∈ tb2 ∧ Cond.selects yX8_spare.cls yX8_spare yX8_spare ∈ tb2 ∧ Cond.initialized yX8_spare.cls ∈ tb2 ∧ Cond.code yX8_spare cX8_spare 2 (some .int) ∈ tb2 ∧ (yX8_spare.cls ≠ "java/lang/invoke/MethodHandle" ∧ yX8_spare.cls ≠ "java/lang/invoke/VarHandle" ∧ (parseMethodDescriptor yX8_spare.desc).map (fun d => d.parameters.length) = some 1) ∧ 2 ≤ 21 := ⟨⟨TX8, 33, rfl⟩, by decide, m2 (List.mem_of_getElem? (i := 1197) (by decide +kernel)) (by decide +kernel), m2 (List.mem_of_getElem? (i := 1198) (by decide +kernel)) (by decide +kernel), m2 (List.mem_of_getElem? (i := 83) (by decide +kernel)) (by decide +kernel), m2 (List.mem_of_getElem? (i := 1199) (by decide +kernel)) (by decide +kernel), ⟨by decide +kernel, by decide +kernel, by decide +kernel⟩, by decide⟩
theorem qm_X8_spareBy : (∃ (T : u_T) (N : Nat), vwCl[8]? = some (yX8_spareBy.cls, T, N)) ∧ 8 < 9 ∧ Cond.instanceMethod yX8_spareBy ∈ tb2 ∧ Cond.selects yX8_spareBy.cls yX8_spareBy yX8_spareBy ∈ tb2 ∧ Cond.initialized yX8_spareBy.cls ∈ tb2 ∧ Cond.code yX8_spareBy cX8_spareBy 4 (some .int) ∈ tb2 ∧ (yX8_spareBy.cls ≠ "java/lang/invoke/MethodHandle" ∧ yX8_spareBy.cls ≠ "java/lang/invoke/VarHandle" ∧ (parseMethodDescriptor yX8_spareBy.desc).map (fun d => d.parameters.length) = some 1) ∧ 4 ≤ 21 := ⟨⟨TX8, 33, rfl⟩, by decide, m2 (List.mem_of_getElem? (i := 1203) (by decide +kernel)) (by decide +kernel), m2 (List.mem_of_getElem? (i := 58) (by decide +kernel)) (by decide +kernel), m2 (List.mem_of_getElem? (i := 83) (by decide +kernel)) (by decide +kernel), m2 (List.mem_of_getElem? (i := 1204) (by decide +kernel)) (by decide +kernel), ⟨by decide +kernel, by decide +kernel, by decide +kernel⟩, by decide⟩
theorem qm_X8_start : (∃ (T : u_T) (N : Nat), vwCl[8]? = some (yX8_start.cls, T, N)) ∧ 8 < 9 ∧ Cond.instanceMethod yX8_start ∈ tb2 ∧ Cond.selects yX8_start.cls yX8_start yX8_start ∈ tb2 ∧ Cond.initialized yX8_start.cls ∈ tb2 ∧ Cond.code yX8_start cX8_start 3 (some .int) ∈ tb2 ∧ (yX8_start.cls ≠ "java/lang/invoke/MethodHandle" ∧ yX8_start.cls ≠ "java/lang/invoke/VarHandle" ∧ (parseMethodDescriptor yX8_start.desc).map (fun d => d.parameters.length) = some 2) ∧ 3 ≤ 21 := ⟨⟨TX8, 33, rfl⟩, by decide, m2 (List.mem_of_getElem? (i := 1177) (by decide +kernel)) (by decide +kernel), m2 (List.mem_of_getElem? (i := 1178) (by decide +kernel)) (by decide +kernel), m2 (List.mem_of_getElem? (i := 83) (by decide +kernel)) (by decide +kernel), m2 (List.mem_of_getElem? (i := 1179) (by decide +kernel)) (by decide +kernel), ⟨by decide +kernel, by decide +kernel, by decide +kernel⟩, by decide⟩
theorem qm_X8_sum : (∃ (T : u_T) (N : Nat), vwCl[8]? = some (yX8_sum.cls, T, N)) ∧ 8 < 9 ∧ Cond.instanceMethod yX8_sum ∈ tb2 ∧ Cond.selects yX8_sum.cls yX8_sum yX8_sum ∈ tb2 ∧ Cond.initialized yX8_sum.cls ∈ tb2 ∧ Cond.code yX8_sum cX8_sum 2 (some .int) ∈ tb2 ∧ (yX8_sum.cls ≠ "java/lang/invoke/MethodHandle" ∧ yX8_sum.cls ≠ "java/lang/invoke/VarHandle" ∧ (parseMethodDescriptor yX8_sum.desc).map (fun d => d.parameters.length) = some 1) ∧ 2 ≤ 21 := ⟨⟨TX8, 33, rfl⟩, by decide, m2 (List.mem_of_getElem? (i := 1141) (by decide +kernel)) (by decide +kernel), m2 (List.mem_of_getElem? (i := 1142) (by decide +kernel)) (by decide +kernel), m2 (List.mem_of_getElem? (i := 83) (by decide +kernel)) (by decide +kernel), m2 (List.mem_of_getElem? (i := 1143) (by decide +kernel)) (by decide +kernel), ⟨by decide +kernel, by decide +kernel, by decide +kernel⟩, by decide⟩
theorem qm_X8_sumBy : (∃ (T : u_T) (N : Nat), vwCl[8]? = some (yX8_sumBy.cls, T, N)) ∧ 8 < 9 ∧ Cond.instanceMethod yX8_sumBy ∈ tb2 ∧ Cond.selects yX8_sumBy.cls yX8_sumBy yX8_sumBy ∈ tb2 ∧ Cond.initialized yX8_sumBy.cls ∈ tb2 ∧ Cond.code yX8_sumBy cX8_sumBy 2 (some .int) ∈ tb2 ∧ (yX8_sumBy.cls ≠ "java/lang/invoke/MethodHandle" ∧ yX8_sumBy.cls ≠ "java/lang/invoke/VarHandle" ∧ (parseMethodDescriptor yX8_sumBy.desc).map (fun d => d.parameters.length) = some 1) ∧ 2 ≤ 21 := ⟨⟨TX8, 33, rfl⟩, by decide, m2 (List.mem_of_getElem? (i := 1146) (by decide +kernel)) (by decide +kernel), m2 (List.mem_of_getElem? (i := 50) (by decide +kernel)) (by decide +kernel), m2 (List.mem_of_getElem? (i := 83) (by decide +kernel)) (by decide +kernel), m2 (List.mem_of_getElem? (i := 1147) (by decide +kernel)) (by decide +kernel), ⟨by decide +kernel, by decide +kernel, by decide +kernel⟩, by decide⟩
theorem qm_X8_sway : (∃ (T : u_T) (N : Nat), vwCl[8]? = some (yX8_sway.cls, T, N)) ∧ 8 < 9 ∧ Cond.instanceMethod yX8_sway ∈ tb2 ∧ Cond.selects yX8_sway.cls yX8_sway yX8_sway ∈ tb2 ∧ Cond.initialized yX8_sway.cls ∈ tb2 ∧ Cond.code yX8_sway cX8_sway 2 (some .int) ∈ tb2 ∧ (yX8_sway.cls ≠ "java/lang/invoke/MethodHandle" ∧ yX8_sway.cls ≠ "java/lang/invoke/VarHandle" ∧ (parseMethodDescriptor yX8_sway.desc).map (fun d => d.parameters.length) = some 1) ∧ 2 ≤ 21 := ⟨⟨TX8, 33, rfl⟩, by decide, m2 (List.mem_of_getElem? (i := 1129) (by decide +kernel)) (by decide +kernel), m2 (List.mem_of_getElem? (i := 1130) (by decide +kernel)) (by decide +kernel), m2 (List.mem_of_getElem? (i := 83) (by decide +kernel)) (by decide +kernel), m2 (List.mem_of_getElem? (i := 1131) (by decide +kernel)) (by decide +kernel), ⟨by decide +kernel, by decide +kernel, by decide +kernel⟩, by decide⟩
theorem qm_X8_tellsBeat : (∃ (T : u_T) (N : Nat), vwCl[8]? = some (yX8_tellsBeat.cls, T, N)) ∧ 8 < 9 ∧ Cond.instanceMethod yX8_tellsBeat ∈ tb2 ∧ Cond.selects yX8_tellsBeat.cls yX8_tellsBeat yX8_tellsBeat ∈ tb2 ∧ Cond.initialized yX8_tellsBeat.cls ∈ tb2 ∧ Cond.code yX8_tellsBeat cX8_tellsBeat 7 (some .long) ∈ tb2 ∧ (yX8_tellsBeat.cls ≠ "java/lang/invoke/MethodHandle" ∧ yX8_tellsBeat.cls ≠ "java/lang/invoke/VarHandle" ∧ (parseMethodDescriptor yX8_tellsBeat.desc).map (fun d => d.parameters.length) = some 3) ∧ 7 ≤ 21 := ⟨⟨TX8, 33, rfl⟩, by decide, m2 (List.mem_of_getElem? (i := 1316) (by decide +kernel)) (by decide +kernel), m2 (List.mem_of_getElem? (i := 72) (by decide +kernel)) (by decide +kernel), m2 (List.mem_of_getElem? (i := 83) (by decide +kernel)) (by decide +kernel), m2 (List.mem_of_getElem? (i := 1317) (by decide +kernel)) (by decide +kernel), ⟨by decide +kernel, by decide +kernel, by decide +kernel⟩, by decide⟩
theorem qm_X8_tellsWalker : (∃ (T : u_T) (N : Nat), vwCl[8]? = some (yX8_tellsWalker.cls, T, N)) ∧ 8 < 9 ∧ Cond.instanceMethod yX8_tellsWalker ∈ tb2 ∧ Cond.selects yX8_tellsWalker.cls yX8_tellsWalker yX8_tellsWalker ∈ tb2 ∧ Cond.initialized yX8_tellsWalker.cls ∈ tb2 ∧ Cond.code yX8_tellsWalker cX8_tellsWalker 7 (some .long) ∈ tb2 ∧ (yX8_tellsWalker.cls ≠ "java/lang/invoke/MethodHandle" ∧ yX8_tellsWalker.cls ≠ "java/lang/invoke/VarHandle" ∧ (parseMethodDescriptor yX8_tellsWalker.desc).map (fun d => d.parameters.length) = some 2) ∧ 7 ≤ 21 := ⟨⟨TX8, 33, rfl⟩, by decide, m2 (List.mem_of_getElem? (i := 1312) (by decide +kernel)) (by decide +kernel), m2 (List.mem_of_getElem? (i := 71) (by decide +kernel)) (by decide +kernel), m2 (List.mem_of_getElem? (i := 83) (by decide +kernel)) (by decide +kernel), m2 (List.mem_of_getElem? (i := 1313) (by decide +kernel)) (by decide +kernel), ⟨by decide +kernel, by decide +kernel, by decide +kernel⟩, by decide⟩
theorem qm_X8_type : (∃ (T : u_T) (N : Nat), vwCl[8]? = some (yX8_type.cls, T, N)) ∧ 8 < 9 ∧ Cond.instanceMethod yX8_type ∈ tb2 ∧ Cond.selects yX8_type.cls yX8_type yX8_type ∈ tb2 ∧ Cond.initialized yX8_type.cls ∈ tb2 ∧ Cond.code yX8_type cX8_type 3 (some .int) ∈ tb2 ∧ (yX8_type.cls ≠ "java/lang/invoke/MethodHandle" ∧ yX8_type.cls ≠ "java/lang/invoke/VarHandle" ∧ (parseMethodDescriptor yX8_type.desc).map (fun d => d.parameters.length) = some 2) ∧ 3 ≤ 21 := ⟨⟨TX8, 33, rfl⟩, by decide, m2 (List.mem_of_getElem? (i := 985) (by decide +kernel)) (by decide +kernel), m2 (List.mem_of_getElem? (i := 986) (by decide +kernel)) (by decide +kernel), m2 (List.mem_of_getElem? (i := 83) (by decide +kernel)) (by decide +kernel), m2 (List.mem_of_getElem? (i := 987) (by decide +kernel)) (by decide +kernel), ⟨by decide +kernel, by decide +kernel, by decide +kernel⟩, by decide⟩
theorem qm_X8_undo : (∃ (T : u_T) (N : Nat), vwCl[8]? = some (yX8_undo.cls, T, N)) ∧ 8 < 9 ∧ Cond.instanceMethod yX8_undo ∈ tb2 ∧ Cond.selects yX8_undo.cls yX8_undo yX8_undo ∈ tb2 ∧ Cond.initialized yX8_undo.cls ∈ tb2 ∧ Cond.code yX8_undo cX8_undo 2 (some .int) ∈ tb2 ∧ (yX8_undo.cls ≠ "java/lang/invoke/MethodHandle" ∧ yX8_undo.cls ≠ "java/lang/invoke/VarHandle" ∧ (parseMethodDescriptor yX8_undo.desc).map (fun d => d.parameters.length) = some 1) ∧ 2 ≤ 21 := ⟨⟨TX8, 33, rfl⟩, by decide, m2 (List.mem_of_getElem? (i := 997) (by decide +kernel)) (by decide +kernel), m2 (List.mem_of_getElem? (i := 998) (by decide +kernel)) (by decide +kernel), m2 (List.mem_of_getElem? (i := 83) (by decide +kernel)) (by decide +kernel), m2 (List.mem_of_getElem? (i := 999) (by decide +kernel)) (by decide +kernel), ⟨by decide +kernel, by decide +kernel, by decide +kernel⟩, by decide⟩
theorem qm_X8_walker : (∃ (T : u_T) (N : Nat), vwCl[8]? = some (yX8_walker.cls, T, N)) ∧ 8 < 9 ∧ Cond.instanceMethod yX8_walker ∈ tb2 ∧ Cond.selects yX8_walker.cls yX8_walker yX8_walker ∈ tb2 ∧ Cond.initialized yX8_walker.cls ∈ tb2 ∧ Cond.code yX8_walker cX8_walker 3 (some .int) ∈ tb2 ∧ (yX8_walker.cls ≠ "java/lang/invoke/MethodHandle" ∧ yX8_walker.cls ≠ "java/lang/invoke/VarHandle" ∧ (parseMethodDescriptor yX8_walker.desc).map (fun d => d.parameters.length) = some 2) ∧ 3 ≤ 21 := ⟨⟨TX8, 33, rfl⟩, by decide, m2 (List.mem_of_getElem? (i := 1028) (by decide +kernel)) (by decide +kernel), m2 (List.mem_of_getElem? (i := 1029) (by decide +kernel)) (by decide +kernel), m2 (List.mem_of_getElem? (i := 83) (by decide +kernel)) (by decide +kernel), m2 (List.mem_of_getElem? (i := 1030) (by decide +kernel)) (by decide +kernel), ⟨by decide +kernel, by decide +kernel, by decide +kernel⟩, by decide⟩
theorem qm_X8_walkerBetter : (∃ (T : u_T) (N : Nat), vwCl[8]? = some (yX8_walkerBetter.cls, T, N)) ∧ 8 < 9 ∧ Cond.instanceMethod yX8_walkerBetter ∈ tb2 ∧ Cond.selects yX8_walkerBetter.cls yX8_walkerBetter yX8_walkerBetter ∈ tb2 ∧ Cond.initialized yX8_walkerBetter.cls ∈ tb2 ∧ Cond.code yX8_walkerBetter cX8_walkerBetter 9 (some .int) ∈ tb2 ∧ (yX8_walkerBetter.cls ≠ "java/lang/invoke/MethodHandle" ∧ yX8_walkerBetter.cls ≠ "java/lang/invoke/VarHandle" ∧ (parseMethodDescriptor yX8_walkerBetter.desc).map (fun d => d.parameters.length) = some 3) ∧ 9 ≤ 21 := ⟨⟨TX8, 33, rfl⟩, by decide, m2 (List.mem_of_getElem? (i := 1182) (by decide +kernel)) (by decide +kernel), m2 (List.mem_of_getElem? (i := 56) (by decide +kernel)) (by decide +kernel), m2 (List.mem_of_getElem? (i := 83) (by decide +kernel)) (by decide +kernel), m2 (List.mem_of_getElem? (i := 1183) (by decide +kernel)) (by decide +kernel), ⟨by decide +kernel, by decide +kernel, by decide +kernel⟩, by decide⟩
theorem qm_X8_was : (∃ (T : u_T) (N : Nat), vwCl[8]? = some (yX8_was.cls, T, N)) ∧ 8 < 9 ∧ Cond.instanceMethod yX8_was ∈ tb2 ∧ Cond.selects yX8_was.cls yX8_was yX8_was ∈ tb2 ∧ Cond.initialized yX8_was.cls ∈ tb2 ∧ Cond.code yX8_was cX8_was 3 (some .int) ∈ tb2 ∧ (yX8_was.cls ≠ "java/lang/invoke/MethodHandle" ∧ yX8_was.cls ≠ "java/lang/invoke/VarHandle" ∧ (parseMethodDescriptor yX8_was.desc).map (fun d => d.parameters.length) = some 2) ∧ 3 ≤ 21 := ⟨⟨TX8, 33, rfl⟩, by decide, m2 (List.mem_of_getElem? (i := 1230) (by decide +kernel)) (by decide +kernel), m2 (List.mem_of_getElem? (i := 1231) (by decide +kernel)) (by decide +kernel), m2 (List.mem_of_getElem? (i := 83) (by decide +kernel)) (by decide +kernel), m2 (List.mem_of_getElem? (i := 1232) (by decide +kernel)) (by decide +kernel), ⟨by decide +kernel, by decide +kernel, by decide +kernel⟩, by decide⟩
theorem qm_X8_wasOf : (∃ (T : u_T) (N : Nat), vwCl[8]? = some (yX8_wasOf.cls, T, N)) ∧ 8 < 9 ∧ Cond.instanceMethod yX8_wasOf ∈ tb2 ∧ Cond.selects yX8_wasOf.cls yX8_wasOf yX8_wasOf ∈ tb2 ∧ Cond.initialized yX8_wasOf.cls ∈ tb2 ∧ Cond.code yX8_wasOf cX8_wasOf 3 (some .int) ∈ tb2 ∧ (yX8_wasOf.cls ≠ "java/lang/invoke/MethodHandle" ∧ yX8_wasOf.cls ≠ "java/lang/invoke/VarHandle" ∧ (parseMethodDescriptor yX8_wasOf.desc).map (fun d => d.parameters.length) = some 2) ∧ 3 ≤ 21 := ⟨⟨TX8, 33, rfl⟩, by decide, m2 (List.mem_of_getElem? (i := 1235) (by decide +kernel)) (by decide +kernel), m2 (List.mem_of_getElem? (i := 62) (by decide +kernel)) (by decide +kernel), m2 (List.mem_of_getElem? (i := 83) (by decide +kernel)) (by decide +kernel), m2 (List.mem_of_getElem? (i := 1236) (by decide +kernel)) (by decide +kernel), ⟨by decide +kernel, by decide +kernel, by decide +kernel⟩, by decide⟩
theorem qm_X8_who : (∃ (T : u_T) (N : Nat), vwCl[8]? = some (yX8_who.cls, T, N)) ∧ 8 < 9 ∧ Cond.instanceMethod yX8_who ∈ tb2 ∧ Cond.selects yX8_who.cls yX8_who yX8_who ∈ tb2 ∧ Cond.initialized yX8_who.cls ∈ tb2 ∧ Cond.code yX8_who cX8_who 2 (some .int) ∈ tb2 ∧ (yX8_who.cls ≠ "java/lang/invoke/MethodHandle" ∧ yX8_who.cls ≠ "java/lang/invoke/VarHandle" ∧ (parseMethodDescriptor yX8_who.desc).map (fun d => d.parameters.length) = some 1) ∧ 2 ≤ 21 := ⟨⟨TX8, 33, rfl⟩, by decide, m2 (List.mem_of_getElem? (i := 1153) (by decide +kernel)) (by decide +kernel), m2 (List.mem_of_getElem? (i := 1154) (by decide +kernel)) (by decide +kernel), m2 (List.mem_of_getElem? (i := 83) (by decide +kernel)) (by decide +kernel), m2 (List.mem_of_getElem? (i := 1155) (by decide +kernel)) (by decide +kernel), ⟨by decide +kernel, by decide +kernel, by decide +kernel⟩, by decide⟩
theorem qm_X8_whoAt : (∃ (T : u_T) (N : Nat), vwCl[8]? = some (yX8_whoAt.cls, T, N)) ∧ 8 < 9 ∧ Cond.instanceMethod yX8_whoAt ∈ tb2 ∧ Cond.selects yX8_whoAt.cls yX8_whoAt yX8_whoAt ∈ tb2 ∧ Cond.initialized yX8_whoAt.cls ∈ tb2 ∧ Cond.code yX8_whoAt cX8_whoAt 4 (some .int) ∈ tb2 ∧ (yX8_whoAt.cls ≠ "java/lang/invoke/MethodHandle" ∧ yX8_whoAt.cls ≠ "java/lang/invoke/VarHandle" ∧ (parseMethodDescriptor yX8_whoAt.desc).map (fun d => d.parameters.length) = some 1) ∧ 4 ≤ 21 := ⟨⟨TX8, 33, rfl⟩, by decide, m2 (List.mem_of_getElem? (i := 1108) (by decide +kernel)) (by decide +kernel), m2 (List.mem_of_getElem? (i := 47) (by decide +kernel)) (by decide +kernel), m2 (List.mem_of_getElem? (i := 83) (by decide +kernel)) (by decide +kernel), m2 (List.mem_of_getElem? (i := 1109) (by decide +kernel)) (by decide +kernel), ⟨by decide +kernel, by decide +kernel, by decide +kernel⟩, by decide⟩
theorem qm_X8_whoBy : (∃ (T : u_T) (N : Nat), vwCl[8]? = some (yX8_whoBy.cls, T, N)) ∧ 8 < 9 ∧ Cond.instanceMethod yX8_whoBy ∈ tb2 ∧ Cond.selects yX8_whoBy.cls yX8_whoBy yX8_whoBy ∈ tb2 ∧ Cond.initialized yX8_whoBy.cls ∈ tb2 ∧ Cond.code yX8_whoBy cX8_whoBy 2 (some .int) ∈ tb2 ∧ (yX8_whoBy.cls ≠ "java/lang/invoke/MethodHandle" ∧ yX8_whoBy.cls ≠ "java/lang/invoke/VarHandle" ∧ (parseMethodDescriptor yX8_whoBy.desc).map (fun d => d.parameters.length) = some 1) ∧ 2 ≤ 21 := ⟨⟨TX8, 33, rfl⟩, by decide, m2 (List.mem_of_getElem? (i := 1158) (by decide +kernel)) (by decide +kernel), m2 (List.mem_of_getElem? (i := 52) (by decide +kernel)) (by decide +kernel), m2 (List.mem_of_getElem? (i := 83) (by decide +kernel)) (by decide +kernel), m2 (List.mem_of_getElem? (i := 1159) (by decide +kernel)) (by decide +kernel), ⟨by decide +kernel, by decide +kernel, by decide +kernel⟩, by decide⟩
theorem qm_X8_wipe : (∃ (T : u_T) (N : Nat), vwCl[8]? = some (yX8_wipe.cls, T, N)) ∧ 8 < 9 ∧ Cond.instanceMethod yX8_wipe ∈ tb2 ∧ Cond.selects yX8_wipe.cls yX8_wipe yX8_wipe ∈ tb2 ∧ Cond.initialized yX8_wipe.cls ∈ tb2 ∧ Cond.code yX8_wipe cX8_wipe 3 (some .int) ∈ tb2 ∧ (yX8_wipe.cls ≠ "java/lang/invoke/MethodHandle" ∧ yX8_wipe.cls ≠ "java/lang/invoke/VarHandle" ∧ (parseMethodDescriptor yX8_wipe.desc).map (fun d => d.parameters.length) = some 1) ∧ 3 ≤ 21 := ⟨⟨TX8, 33, rfl⟩, by decide, m2 (List.mem_of_getElem? (i := 993) (by decide +kernel)) (by decide +kernel), m2 (List.mem_of_getElem? (i := 994) (by decide +kernel)) (by decide +kernel), m2 (List.mem_of_getElem? (i := 83) (by decide +kernel)) (by decide +kernel), m2 (List.mem_of_getElem? (i := 995) (by decide +kernel)) (by decide +kernel), ⟨by decide +kernel, by decide +kernel, by decide +kernel⟩, by decide⟩
theorem qm_X8_wire : (∃ (T : u_T) (N : Nat), vwCl[8]? = some (yX8_wire.cls, T, N)) ∧ 8 < 9 ∧ Cond.instanceMethod yX8_wire ∈ tb2 ∧ Cond.selects yX8_wire.cls yX8_wire yX8_wire ∈ tb2 ∧ Cond.initialized yX8_wire.cls ∈ tb2 ∧ Cond.code yX8_wire cX8_wire 4 (some .int) ∈ tb2 ∧ (yX8_wire.cls ≠ "java/lang/invoke/MethodHandle" ∧ yX8_wire.cls ≠ "java/lang/invoke/VarHandle" ∧ (parseMethodDescriptor yX8_wire.desc).map (fun d => d.parameters.length) = some 2) ∧ 4 ≤ 21 := ⟨⟨TX8, 33, rfl⟩, by decide, m2 (List.mem_of_getElem? (i := 1044) (by decide +kernel)) (by decide +kernel), m2 (List.mem_of_getElem? (i := 1045) (by decide +kernel)) (by decide +kernel), m2 (List.mem_of_getElem? (i := 83) (by decide +kernel)) (by decide +kernel), m2 (List.mem_of_getElem? (i := 1046) (by decide +kernel)) (by decide +kernel), ⟨by decide +kernel, by decide +kernel, by decide +kernel⟩, by decide⟩
theorem qm_X8_worstNow : (∃ (T : u_T) (N : Nat), vwCl[8]? = some (yX8_worstNow.cls, T, N)) ∧ 8 < 9 ∧ Cond.instanceMethod yX8_worstNow ∈ tb2 ∧ Cond.selects yX8_worstNow.cls yX8_worstNow yX8_worstNow ∈ tb2 ∧ Cond.initialized yX8_worstNow.cls ∈ tb2 ∧ Cond.code yX8_worstNow cX8_worstNow 4 (some .int) ∈ tb2 ∧ (yX8_worstNow.cls ≠ "java/lang/invoke/MethodHandle" ∧ yX8_worstNow.cls ≠ "java/lang/invoke/VarHandle" ∧ (parseMethodDescriptor yX8_worstNow.desc).map (fun d => d.parameters.length) = some 0) ∧ 4 ≤ 21 := ⟨⟨TX8, 33, rfl⟩, by decide, m2 (List.mem_of_getElem? (i := 1166) (by decide +kernel)) (by decide +kernel), m2 (List.mem_of_getElem? (i := 54) (by decide +kernel)) (by decide +kernel), m2 (List.mem_of_getElem? (i := 83) (by decide +kernel)) (by decide +kernel), m2 (List.mem_of_getElem? (i := 1167) (by decide +kernel)) (by decide +kernel), ⟨by decide +kernel, by decide +kernel, by decide +kernel⟩, by decide⟩
theorem qm_X8_write : (∃ (T : u_T) (N : Nat), vwCl[8]? = some (yX8_write.cls, T, N)) ∧ 8 < 9 ∧ Cond.instanceMethod yX8_write ∈ tb2 ∧ Cond.selects yX8_write.cls yX8_write yX8_write ∈ tb2 ∧ Cond.initialized yX8_write.cls ∈ tb2 ∧ Cond.code yX8_write cX8_write 5 (some .int) ∈ tb2 ∧ (yX8_write.cls ≠ "java/lang/invoke/MethodHandle" ∧ yX8_write.cls ≠ "java/lang/invoke/VarHandle" ∧ (parseMethodDescriptor yX8_write.desc).map (fun d => d.parameters.length) = some 2) ∧ 5 ≤ 21 := ⟨⟨TX8, 33, rfl⟩, by decide, m2 (List.mem_of_getElem? (i := 1293) (by decide +kernel)) (by decide +kernel), m2 (List.mem_of_getElem? (i := 1294) (by decide +kernel)) (by decide +kernel), m2 (List.mem_of_getElem? (i := 83) (by decide +kernel)) (by decide +kernel), m2 (List.mem_of_getElem? (i := 1295) (by decide +kernel)) (by decide +kernel), ⟨by decide +kernel, by decide +kernel, by decide +kernel⟩, by decide⟩
theorem qs_J7_fill_53178 : Cond.static yJ7_fill_53178 ∈ tb2 ∧ Cond.initialized yJ7_fill_53178.cls ∈ tb2 ∧ Cond.code yJ7_fill_53178 cJ7_fill_53178 4 none ∈ tb2 ∧ (yJ7_fill_53178.cls ≠ "java/lang/invoke/MethodHandle" ∧ yJ7_fill_53178.cls ≠ "java/lang/invoke/VarHandle" ∧ (parseMethodDescriptor yJ7_fill_53178.desc).map (fun d => d.parameters.length) = some 2) ∧ 4 ≤ 21 := ⟨m2 (List.mem_of_getElem? (i := 519) (by decide +kernel)) (by decide +kernel), m2 (List.mem_of_getElem? (i := 84) (by decide +kernel)) (by decide +kernel), m2 (List.mem_of_getElem? (i := 520) (by decide +kernel)) (by decide +kernel), ⟨by decide +kernel, by decide +kernel, by decide +kernel⟩, by decide⟩
theorem qs_X0_rowOf : Cond.static yX0_rowOf ∈ tb2 ∧ Cond.initialized yX0_rowOf.cls ∈ tb2 ∧ Cond.code yX0_rowOf cX0_rowOf 3 (some .int) ∈ tb2 ∧ (yX0_rowOf.cls ≠ "java/lang/invoke/MethodHandle" ∧ yX0_rowOf.cls ≠ "java/lang/invoke/VarHandle" ∧ (parseMethodDescriptor yX0_rowOf.desc).map (fun d => d.parameters.length) = some 2) ∧ 3 ≤ 21 := ⟨m2 (List.mem_of_getElem? (i := 569) (by decide +kernel)) (by decide +kernel), m2 (List.mem_of_getElem? (i := 81) (by decide +kernel)) (by decide +kernel), m2 (List.mem_of_getElem? (i := 570) (by decide +kernel)) (by decide +kernel), ⟨by decide +kernel, by decide +kernel, by decide +kernel⟩, by decide⟩
theorem qs_X2_signOf : Cond.static yX2_signOf ∈ tb2 ∧ Cond.initialized yX2_signOf.cls ∈ tb2 ∧ Cond.code yX2_signOf cX2_signOf 1 (some .int) ∈ tb2 ∧ (yX2_signOf.cls ≠ "java/lang/invoke/MethodHandle" ∧ yX2_signOf.cls ≠ "java/lang/invoke/VarHandle" ∧ (parseMethodDescriptor yX2_signOf.desc).map (fun d => d.parameters.length) = some 1) ∧ 1 ≤ 21 := ⟨m2 (List.mem_of_getElem? (i := 541) (by decide +kernel)) (by decide +kernel), m2 (List.mem_of_getElem? (i := 79) (by decide +kernel)) (by decide +kernel), m2 (List.mem_of_getElem? (i := 542) (by decide +kernel)) (by decide +kernel), ⟨by decide +kernel, by decide +kernel, by decide +kernel⟩, by decide⟩
theorem qs_X4_fitsWalkers : Cond.static yX4_fitsWalkers ∈ tb2 ∧ Cond.initialized yX4_fitsWalkers.cls ∈ tb2 ∧ Cond.code yX4_fitsWalkers cX4_fitsWalkers 2 (some .boolean) ∈ tb2 ∧ (yX4_fitsWalkers.cls ≠ "java/lang/invoke/MethodHandle" ∧ yX4_fitsWalkers.cls ≠ "java/lang/invoke/VarHandle" ∧ (parseMethodDescriptor yX4_fitsWalkers.desc).map (fun d => d.parameters.length) = some 2) ∧ 2 ≤ 21 := ⟨m2 (List.mem_of_getElem? (i := 405) (by decide +kernel)) (by decide +kernel), m2 (List.mem_of_getElem? (i := 75) (by decide +kernel)) (by decide +kernel), m2 (List.mem_of_getElem? (i := 406) (by decide +kernel)) (by decide +kernel), ⟨by decide +kernel, by decide +kernel, by decide +kernel⟩, by decide⟩
theorem qs_X4_moveOf : Cond.static yX4_moveOf ∈ tb2 ∧ Cond.initialized yX4_moveOf.cls ∈ tb2 ∧ Cond.code yX4_moveOf cX4_moveOf 1 (some .int) ∈ tb2 ∧ (yX4_moveOf.cls ≠ "java/lang/invoke/MethodHandle" ∧ yX4_moveOf.cls ≠ "java/lang/invoke/VarHandle" ∧ (parseMethodDescriptor yX4_moveOf.desc).map (fun d => d.parameters.length) = some 1) ∧ 1 ≤ 21 := ⟨m2 (List.mem_of_getElem? (i := 425) (by decide +kernel)) (by decide +kernel), m2 (List.mem_of_getElem? (i := 75) (by decide +kernel)) (by decide +kernel), m2 (List.mem_of_getElem? (i := 426) (by decide +kernel)) (by decide +kernel), ⟨by decide +kernel, by decide +kernel, by decide +kernel⟩, by decide⟩
theorem qs_X4_sortOf : Cond.static yX4_sortOf ∈ tb2 ∧ Cond.initialized yX4_sortOf.cls ∈ tb2 ∧ Cond.code yX4_sortOf cX4_sortOf 1 (some .int) ∈ tb2 ∧ (yX4_sortOf.cls ≠ "java/lang/invoke/MethodHandle" ∧ yX4_sortOf.cls ≠ "java/lang/invoke/VarHandle" ∧ (parseMethodDescriptor yX4_sortOf.desc).map (fun d => d.parameters.length) = some 1) ∧ 1 ≤ 21 := ⟨m2 (List.mem_of_getElem? (i := 409) (by decide +kernel)) (by decide +kernel), m2 (List.mem_of_getElem? (i := 75) (by decide +kernel)) (by decide +kernel), m2 (List.mem_of_getElem? (i := 410) (by decide +kernel)) (by decide +kernel), ⟨by decide +kernel, by decide +kernel, by decide +kernel⟩, by decide⟩
theorem qs_X5_mayBeEvent : Cond.static yX5_mayBeEvent ∈ tb2 ∧ Cond.initialized yX5_mayBeEvent.cls ∈ tb2 ∧ Cond.code yX5_mayBeEvent cX5_mayBeEvent 3 (some .boolean) ∈ tb2 ∧ (yX5_mayBeEvent.cls ≠ "java/lang/invoke/MethodHandle" ∧ yX5_mayBeEvent.cls ≠ "java/lang/invoke/VarHandle" ∧ (parseMethodDescriptor yX5_mayBeEvent.desc).map (fun d => d.parameters.length) = some 3) ∧ 3 ≤ 21 := ⟨m2 (List.mem_of_getElem? (i := 470) (by decide +kernel)) (by decide +kernel), m2 (List.mem_of_getElem? (i := 77) (by decide +kernel)) (by decide +kernel), m2 (List.mem_of_getElem? (i := 471) (by decide +kernel)) (by decide +kernel), ⟨by decide +kernel, by decide +kernel, by decide +kernel⟩, by decide⟩
theorem qs_X7_findingAt : Cond.static yX7_findingAt ∈ tb2 ∧ Cond.initialized yX7_findingAt.cls ∈ tb2 ∧ Cond.code yX7_findingAt cX7_findingAt 3 (some .int) ∈ tb2 ∧ (yX7_findingAt.cls ≠ "java/lang/invoke/MethodHandle" ∧ yX7_findingAt.cls ≠ "java/lang/invoke/VarHandle" ∧ (parseMethodDescriptor yX7_findingAt.desc).map (fun d => d.parameters.length) = some 3) ∧ 3 ≤ 21 := ⟨m2 (List.mem_of_getElem? (i := 754) (by decide +kernel)) (by decide +kernel), m2 (List.mem_of_getElem? (i := 74) (by decide +kernel)) (by decide +kernel), m2 (List.mem_of_getElem? (i := 755) (by decide +kernel)) (by decide +kernel), ⟨by decide +kernel, by decide +kernel, by decide +kernel⟩, by decide⟩
theorem qs_X7_isBeat : Cond.static yX7_isBeat ∈ tb2 ∧ Cond.initialized yX7_isBeat.cls ∈ tb2 ∧ Cond.code yX7_isBeat cX7_isBeat 1 (some .boolean) ∈ tb2 ∧ (yX7_isBeat.cls ≠ "java/lang/invoke/MethodHandle" ∧ yX7_isBeat.cls ≠ "java/lang/invoke/VarHandle" ∧ (parseMethodDescriptor yX7_isBeat.desc).map (fun d => d.parameters.length) = some 1) ∧ 1 ≤ 21 := ⟨m2 (List.mem_of_getElem? (i := 459) (by decide +kernel)) (by decide +kernel), m2 (List.mem_of_getElem? (i := 74) (by decide +kernel)) (by decide +kernel), m2 (List.mem_of_getElem? (i := 460) (by decide +kernel)) (by decide +kernel), ⟨by decide +kernel, by decide +kernel, by decide +kernel⟩, by decide⟩
theorem qs_X7_isForm : Cond.static yX7_isForm ∈ tb2 ∧ Cond.initialized yX7_isForm.cls ∈ tb2 ∧ Cond.code yX7_isForm cX7_isForm 1 (some .boolean) ∈ tb2 ∧ (yX7_isForm.cls ≠ "java/lang/invoke/MethodHandle" ∧ yX7_isForm.cls ≠ "java/lang/invoke/VarHandle" ∧ (parseMethodDescriptor yX7_isForm.desc).map (fun d => d.parameters.length) = some 1) ∧ 1 ≤ 21 := ⟨m2 (List.mem_of_getElem? (i := 736) (by decide +kernel)) (by decide +kernel), m2 (List.mem_of_getElem? (i := 74) (by decide +kernel)) (by decide +kernel), m2 (List.mem_of_getElem? (i := 737) (by decide +kernel)) (by decide +kernel), ⟨by decide +kernel, by decide +kernel, by decide +kernel⟩, by decide⟩
theorem qs_X7_isSheet : Cond.static yX7_isSheet ∈ tb2 ∧ Cond.initialized yX7_isSheet.cls ∈ tb2 ∧ Cond.code yX7_isSheet cX7_isSheet 1 (some .boolean) ∈ tb2 ∧ (yX7_isSheet.cls ≠ "java/lang/invoke/MethodHandle" ∧ yX7_isSheet.cls ≠ "java/lang/invoke/VarHandle" ∧ (parseMethodDescriptor yX7_isSheet.desc).map (fun d => d.parameters.length) = some 1) ∧ 1 ≤ 21 := ⟨m2 (List.mem_of_getElem? (i := 491) (by decide +kernel)) (by decide +kernel), m2 (List.mem_of_getElem? (i := 74) (by decide +kernel)) (by decide +kernel), m2 (List.mem_of_getElem? (i := 492) (by decide +kernel)) (by decide +kernel), ⟨by decide +kernel, by decide +kernel, by decide +kernel⟩, by decide⟩
theorem qs_X7_mixed : Cond.static yX7_mixed ∈ tb2 ∧ Cond.initialized yX7_mixed.cls ∈ tb2 ∧ Cond.code yX7_mixed cX7_mixed 4 (some .long) ∈ tb2 ∧ (yX7_mixed.cls ≠ "java/lang/invoke/MethodHandle" ∧ yX7_mixed.cls ≠ "java/lang/invoke/VarHandle" ∧ (parseMethodDescriptor yX7_mixed.desc).map (fun d => d.parameters.length) = some 2) ∧ 4 ≤ 21 := ⟨m2 (List.mem_of_getElem? (i := 795) (by decide +kernel)) (by decide +kernel), m2 (List.mem_of_getElem? (i := 74) (by decide +kernel)) (by decide +kernel), m2 (List.mem_of_getElem? (i := 796) (by decide +kernel)) (by decide +kernel), ⟨by decide +kernel, by decide +kernel, by decide +kernel⟩, by decide⟩
theorem qs_X7_within : Cond.static yX7_within ∈ tb2 ∧ Cond.initialized yX7_within.cls ∈ tb2 ∧ Cond.code yX7_within cX7_within 3 (some .boolean) ∈ tb2 ∧ (yX7_within.cls ≠ "java/lang/invoke/MethodHandle" ∧ yX7_within.cls ≠ "java/lang/invoke/VarHandle" ∧ (parseMethodDescriptor yX7_within.desc).map (fun d => d.parameters.length) = some 3) ∧ 3 ≤ 21 := ⟨m2 (List.mem_of_getElem? (i := 374) (by decide +kernel)) (by decide +kernel), m2 (List.mem_of_getElem? (i := 74) (by decide +kernel)) (by decide +kernel), m2 (List.mem_of_getElem? (i := 375) (by decide +kernel)) (by decide +kernel), ⟨by decide +kernel, by decide +kernel, by decide +kernel⟩, by decide⟩
theorem qs_X8_cut : Cond.static yX8_cut ∈ tb2 ∧ Cond.initialized yX8_cut.cls ∈ tb2 ∧ Cond.code yX8_cut cX8_cut 2 (some .int) ∈ tb2 ∧ (yX8_cut.cls ≠ "java/lang/invoke/MethodHandle" ∧ yX8_cut.cls ≠ "java/lang/invoke/VarHandle" ∧ (parseMethodDescriptor yX8_cut.desc).map (fun d => d.parameters.length) = some 2) ∧ 2 ≤ 21 := ⟨m2 (List.mem_of_getElem? (i := 973) (by decide +kernel)) (by decide +kernel), m2 (List.mem_of_getElem? (i := 83) (by decide +kernel)) (by decide +kernel), m2 (List.mem_of_getElem? (i := 974) (by decide +kernel)) (by decide +kernel), ⟨by decide +kernel, by decide +kernel, by decide +kernel⟩, by decide⟩
theorem qs_X8_greater : Cond.static yX8_greater ∈ tb2 ∧ Cond.initialized yX8_greater.cls ∈ tb2 ∧ Cond.code yX8_greater cX8_greater 2 (some .int) ∈ tb2 ∧ (yX8_greater.cls ≠ "java/lang/invoke/MethodHandle" ∧ yX8_greater.cls ≠ "java/lang/invoke/VarHandle" ∧ (parseMethodDescriptor yX8_greater.desc).map (fun d => d.parameters.length) = some 2) ∧ 2 ≤ 21 := ⟨m2 (List.mem_of_getElem? (i := 1114) (by decide +kernel)) (by decide +kernel), m2 (List.mem_of_getElem? (i := 83) (by decide +kernel)) (by decide +kernel), m2 (List.mem_of_getElem? (i := 1115) (by decide +kernel)) (by decide +kernel), ⟨by decide +kernel, by decide +kernel, by decide +kernel⟩, by decide⟩
theorem qs_X8_in : Cond.static yX8_in ∈ tb2 ∧ Cond.initialized yX8_in.cls ∈ tb2 ∧ Cond.code yX8_in cX8_in 6 (some .boolean) ∈ tb2 ∧ (yX8_in.cls ≠ "java/lang/invoke/MethodHandle" ∧ yX8_in.cls ≠ "java/lang/invoke/VarHandle" ∧ (parseMethodDescriptor yX8_in.desc).map (fun d => d.parameters.length) = some 3) ∧ 6 ≤ 21 := ⟨m2 (List.mem_of_getElem? (i := 953) (by decide +kernel)) (by decide +kernel), m2 (List.mem_of_getElem? (i := 83) (by decide +kernel)) (by decide +kernel), m2 (List.mem_of_getElem? (i := 954) (by decide +kernel)) (by decide +kernel), ⟨by decide +kernel, by decide +kernel, by decide +kernel⟩, by decide⟩
theorem qs_X8_isBeat : Cond.static yX8_isBeat ∈ tb2 ∧ Cond.initialized yX8_isBeat.cls ∈ tb2 ∧ Cond.code yX8_isBeat cX8_isBeat 1 (some .boolean) ∈ tb2 ∧ (yX8_isBeat.cls ≠ "java/lang/invoke/MethodHandle" ∧ yX8_isBeat.cls ≠ "java/lang/invoke/VarHandle" ∧ (parseMethodDescriptor yX8_isBeat.desc).map (fun d => d.parameters.length) = some 1) ∧ 1 ≤ 21 := ⟨m2 (List.mem_of_getElem? (i := 1040) (by decide +kernel)) (by decide +kernel), m2 (List.mem_of_getElem? (i := 83) (by decide +kernel)) (by decide +kernel), m2 (List.mem_of_getElem? (i := 1041) (by decide +kernel)) (by decide +kernel), ⟨by decide +kernel, by decide +kernel, by decide +kernel⟩, by decide⟩
theorem qs_X8_isIn : Cond.static yX8_isIn ∈ tb2 ∧ Cond.initialized yX8_isIn.cls ∈ tb2 ∧ Cond.code yX8_isIn cX8_isIn 2 (some .boolean) ∈ tb2 ∧ (yX8_isIn.cls ≠ "java/lang/invoke/MethodHandle" ∧ yX8_isIn.cls ≠ "java/lang/invoke/VarHandle" ∧ (parseMethodDescriptor yX8_isIn.desc).map (fun d => d.parameters.length) = some 2) ∧ 2 ≤ 21 := ⟨m2 (List.mem_of_getElem? (i := 1088) (by decide +kernel)) (by decide +kernel), m2 (List.mem_of_getElem? (i := 83) (by decide +kernel)) (by decide +kernel), m2 (List.mem_of_getElem? (i := 1089) (by decide +kernel)) (by decide +kernel), ⟨by decide +kernel, by decide +kernel, by decide +kernel⟩, by decide⟩
theorem qs_X8_isSet : Cond.static yX8_isSet ∈ tb2 ∧ Cond.initialized yX8_isSet.cls ∈ tb2 ∧ Cond.code yX8_isSet cX8_isSet 2 (some .boolean) ∈ tb2 ∧ (yX8_isSet.cls ≠ "java/lang/invoke/MethodHandle" ∧ yX8_isSet.cls ≠ "java/lang/invoke/VarHandle" ∧ (parseMethodDescriptor yX8_isSet.desc).map (fun d => d.parameters.length) = some 2) ∧ 2 ≤ 21 := ⟨m2 (List.mem_of_getElem? (i := 1048) (by decide +kernel)) (by decide +kernel), m2 (List.mem_of_getElem? (i := 83) (by decide +kernel)) (by decide +kernel), m2 (List.mem_of_getElem? (i := 1049) (by decide +kernel)) (by decide +kernel), ⟨by decide +kernel, by decide +kernel, by decide +kernel⟩, by decide⟩
theorem qs_X8_isSheet : Cond.static yX8_isSheet ∈ tb2 ∧ Cond.initialized yX8_isSheet.cls ∈ tb2 ∧ Cond.code yX8_isSheet cX8_isSheet 1 (some .boolean) ∈ tb2 ∧ (yX8_isSheet.cls ≠ "java/lang/invoke/MethodHandle" ∧ yX8_isSheet.cls ≠ "java/lang/invoke/VarHandle" ∧ (parseMethodDescriptor yX8_isSheet.desc).map (fun d => d.parameters.length) = some 1) ∧ 1 ≤ 21 := ⟨m2 (List.mem_of_getElem? (i := 949) (by decide +kernel)) (by decide +kernel), m2 (List.mem_of_getElem? (i := 83) (by decide +kernel)) (by decide +kernel), m2 (List.mem_of_getElem? (i := 950) (by decide +kernel)) (by decide +kernel), ⟨by decide +kernel, by decide +kernel, by decide +kernel⟩, by decide⟩
theorem qs_X8_isTwo : Cond.static yX8_isTwo ∈ tb2 ∧ Cond.initialized yX8_isTwo.cls ∈ tb2 ∧ Cond.code yX8_isTwo cX8_isTwo 1 (some .boolean) ∈ tb2 ∧ (yX8_isTwo.cls ≠ "java/lang/invoke/MethodHandle" ∧ yX8_isTwo.cls ≠ "java/lang/invoke/VarHandle" ∧ (parseMethodDescriptor yX8_isTwo.desc).map (fun d => d.parameters.length) = some 1) ∧ 1 ≤ 21 := ⟨m2 (List.mem_of_getElem? (i := 989) (by decide +kernel)) (by decide +kernel), m2 (List.mem_of_getElem? (i := 83) (by decide +kernel)) (by decide +kernel), m2 (List.mem_of_getElem? (i := 990) (by decide +kernel)) (by decide +kernel), ⟨by decide +kernel, by decide +kernel, by decide +kernel⟩, by decide⟩
theorem qs_X8_lesser : Cond.static yX8_lesser ∈ tb2 ∧ Cond.initialized yX8_lesser.cls ∈ tb2 ∧ Cond.code yX8_lesser cX8_lesser 2 (some .int) ∈ tb2 ∧ (yX8_lesser.cls ≠ "java/lang/invoke/MethodHandle" ∧ yX8_lesser.cls ≠ "java/lang/invoke/VarHandle" ∧ (parseMethodDescriptor yX8_lesser.desc).map (fun d => d.parameters.length) = some 2) ∧ 2 ≤ 21 := ⟨m2 (List.mem_of_getElem? (i := 1297) (by decide +kernel)) (by decide +kernel), m2 (List.mem_of_getElem? (i := 83) (by decide +kernel)) (by decide +kernel), m2 (List.mem_of_getElem? (i := 1298) (by decide +kernel)) (by decide +kernel), ⟨by decide +kernel, by decide +kernel, by decide +kernel⟩, by decide⟩
theorem qs_X8_no : Cond.static yX8_no ∈ tb2 ∧ Cond.initialized yX8_no.cls ∈ tb2 ∧ Cond.code yX8_no cX8_no 1 (some .long) ∈ tb2 ∧ (yX8_no.cls ≠ "java/lang/invoke/MethodHandle" ∧ yX8_no.cls ≠ "java/lang/invoke/VarHandle" ∧ (parseMethodDescriptor yX8_no.desc).map (fun d => d.parameters.length) = some 1) ∧ 1 ≤ 21 := ⟨m2 (List.mem_of_getElem? (i := 1275) (by decide +kernel)) (by decide +kernel), m2 (List.mem_of_getElem? (i := 83) (by decide +kernel)) (by decide +kernel), m2 (List.mem_of_getElem? (i := 1276) (by decide +kernel)) (by decide +kernel), ⟨by decide +kernel, by decide +kernel, by decide +kernel⟩, by decide⟩
theorem qs_X8_part : Cond.static yX8_part ∈ tb2 ∧ Cond.initialized yX8_part.cls ∈ tb2 ∧ Cond.code yX8_part cX8_part 11 (some .long) ∈ tb2 ∧ (yX8_part.cls ≠ "java/lang/invoke/MethodHandle" ∧ yX8_part.cls ≠ "java/lang/invoke/VarHandle" ∧ (parseMethodDescriptor yX8_part.desc).map (fun d => d.parameters.length) = some 3) ∧ 11 ≤ 21 := ⟨m2 (List.mem_of_getElem? (i := 1272) (by decide +kernel)) (by decide +kernel), m2 (List.mem_of_getElem? (i := 83) (by decide +kernel)) (by decide +kernel), m2 (List.mem_of_getElem? (i := 1273) (by decide +kernel)) (by decide +kernel), ⟨by decide +kernel, by decide +kernel, by decide +kernel⟩, by decide⟩
theorem qs_X8_size : Cond.static yX8_size ∈ tb2 ∧ Cond.initialized yX8_size.cls ∈ tb2 ∧ Cond.code yX8_size cX8_size 1 (some .int) ∈ tb2 ∧ (yX8_size.cls ≠ "java/lang/invoke/MethodHandle" ∧ yX8_size.cls ≠ "java/lang/invoke/VarHandle" ∧ (parseMethodDescriptor yX8_size.desc).map (fun d => d.parameters.length) = some 1) ∧ 1 ≤ 21 := ⟨m2 (List.mem_of_getElem? (i := 1111) (by decide +kernel)) (by decide +kernel), m2 (List.mem_of_getElem? (i := 83) (by decide +kernel)) (by decide +kernel), m2 (List.mem_of_getElem? (i := 1112) (by decide +kernel)) (by decide +kernel), ⟨by decide +kernel, by decide +kernel, by decide +kernel⟩, by decide⟩
theorem qs_X8_walkerOf : Cond.static yX8_walkerOf ∈ tb2 ∧ Cond.initialized yX8_walkerOf.cls ∈ tb2 ∧ Cond.code yX8_walkerOf cX8_walkerOf 2 (some .int) ∈ tb2 ∧ (yX8_walkerOf.cls ≠ "java/lang/invoke/MethodHandle" ∧ yX8_walkerOf.cls ≠ "java/lang/invoke/VarHandle" ∧ (parseMethodDescriptor yX8_walkerOf.desc).map (fun d => d.parameters.length) = some 2) ∧ 2 ≤ 21 := ⟨m2 (List.mem_of_getElem? (i := 1013) (by decide +kernel)) (by decide +kernel), m2 (List.mem_of_getElem? (i := 83) (by decide +kernel)) (by decide +kernel), m2 (List.mem_of_getElem? (i := 1014) (by decide +kernel)) (by decide +kernel), ⟨by decide +kernel, by decide +kernel, by decide +kernel⟩, by decide⟩
theorem v_X0_32 : CV RX0 32 0 yX0_placeBehind cX0_placeBehind 4 (some .int) 2 := ⟨qm_X0_placeBehind.1, qm_X0_placeBehind.2.1, Or.inl (m2 (List.mem_of_getElem? (i := 690) (by decide +kernel)) (by decide +kernel)), qm_X0_placeBehind.2.2.1, qm_X0_placeBehind.2.2.2.1, qm_X0_placeBehind.2.2.2.2.1, qm_X0_placeBehind.2.2.2.2.2.1, qm_X0_placeBehind.2.2.2.2.2.2.1, qm_X0_placeBehind.2.2.2.2.2.2.2⟩
theorem v_X1_41 : CV RX1 41 1 yX1_fitted cX1_fitted 2 (some .int) 1 := ⟨qm_X1_fitted.1, qm_X1_fitted.2.1, Or.inl (m2 (List.mem_of_getElem? (i := 760) (by decide +kernel)) (by decide +kernel)), qm_X1_fitted.2.2.1, qm_X1_fitted.2.2.2.1, qm_X1_fitted.2.2.2.2.1, qm_X1_fitted.2.2.2.2.2.1, qm_X1_fitted.2.2.2.2.2.2.1, qm_X1_fitted.2.2.2.2.2.2.2⟩
theorem v_X2_105 : CV RX2 105 2 yX2_dropPoles cX2_dropPoles 3 none 1 := ⟨qm_X2_dropPoles.1, qm_X2_dropPoles.2.1, Or.inl (m2 (List.mem_of_getElem? (i := 531) (by decide +kernel)) (by decide +kernel)), qm_X2_dropPoles.2.2.1, qm_X2_dropPoles.2.2.2.1, qm_X2_dropPoles.2.2.2.2.1, qm_X2_dropPoles.2.2.2.2.2.1, qm_X2_dropPoles.2.2.2.2.2.2.1, qm_X2_dropPoles.2.2.2.2.2.2.2⟩
theorem v_X2_119 : CV RX2 119 2 yX2_perform cX2_perform 9 none 5 := ⟨qm_X2_perform.1, qm_X2_perform.2.1, Or.inl (m2 (List.mem_of_getElem? (i := 536) (by decide +kernel)) (by decide +kernel)), qm_X2_perform.2.2.1, qm_X2_perform.2.2.2.1, qm_X2_perform.2.2.2.2.1, qm_X2_perform.2.2.2.2.2.1, qm_X2_perform.2.2.2.2.2.2.1, qm_X2_perform.2.2.2.2.2.2.2⟩
theorem v_X2_123 : CV RX2 123 2 yX2_settle cX2_settle 4 none 3 := ⟨qm_X2_settle.1, qm_X2_settle.2.1, Or.inl (m2 (List.mem_of_getElem? (i := 546) (by decide +kernel)) (by decide +kernel)), qm_X2_settle.2.2.1, qm_X2_settle.2.2.2.1, qm_X2_settle.2.2.2.2.1, qm_X2_settle.2.2.2.2.2.1, qm_X2_settle.2.2.2.2.2.2.1, qm_X2_settle.2.2.2.2.2.2.2⟩
theorem v_X2_127 : CV RX2 127 2 yX2_startNext cX2_startNext 4 none 2 := ⟨qm_X2_startNext.1, qm_X2_startNext.2.1, Or.inl (m2 (List.mem_of_getElem? (i := 551) (by decide +kernel)) (by decide +kernel)), qm_X2_startNext.2.2.1, qm_X2_startNext.2.2.2.1, qm_X2_startNext.2.2.2.2.1, qm_X2_startNext.2.2.2.2.2.1, qm_X2_startNext.2.2.2.2.2.2.1, qm_X2_startNext.2.2.2.2.2.2.2⟩
theorem v_X2_152 : CV RX2 152 0 yX0_noteSway cX0_noteSway 3 none 2 := ⟨qm_X0_noteSway.1, qm_X0_noteSway.2.1, Or.inl (m2 (List.mem_of_getElem? (i := 559) (by decide +kernel)) (by decide +kernel)), qm_X0_noteSway.2.2.1, qm_X0_noteSway.2.2.2.1, qm_X0_noteSway.2.2.2.2.1, qm_X0_noteSway.2.2.2.2.2.1, qm_X0_noteSway.2.2.2.2.2.2.1, qm_X0_noteSway.2.2.2.2.2.2.2⟩
theorem v_X2_156 : CV RX2 156 0 yX0_note cX0_note 7 none 5 := ⟨qm_X0_note.1, qm_X0_note.2.1, Or.inl (m2 (List.mem_of_getElem? (i := 564) (by decide +kernel)) (by decide +kernel)), qm_X0_note.2.2.1, qm_X0_note.2.2.2.1, qm_X0_note.2.2.2.2.1, qm_X0_note.2.2.2.2.2.1, qm_X0_note.2.2.2.2.2.2.1, qm_X0_note.2.2.2.2.2.2.2⟩
theorem v_X2_77 : CV RX2 77 2 yX2_prepare cX2_prepare 4 none 2 := ⟨qm_X2_prepare.1, qm_X2_prepare.2.1, Or.inl (m2 (List.mem_of_getElem? (i := 510) (by decide +kernel)) (by decide +kernel)), qm_X2_prepare.2.2.1, qm_X2_prepare.2.2.2.1, qm_X2_prepare.2.2.2.2.1, qm_X2_prepare.2.2.2.2.2.1, qm_X2_prepare.2.2.2.2.2.2.1, qm_X2_prepare.2.2.2.2.2.2.2⟩
theorem v_X2_81 : CV RX2 81 6 yX6_gather cX6_gather 4 none 2 := ⟨qm_X6_gather.1, qm_X6_gather.2.1, Or.inl (m2 (List.mem_of_getElem? (i := 514) (by decide +kernel)) (by decide +kernel)), qm_X6_gather.2.2.1, qm_X6_gather.2.2.2.1, qm_X6_gather.2.2.2.2.1, qm_X6_gather.2.2.2.2.2.1, qm_X6_gather.2.2.2.2.2.2.1, qm_X6_gather.2.2.2.2.2.2.2⟩
theorem v_X2_87 : CV RX2 87 2 yX2_playBeat cX2_playBeat 11 none 4 := ⟨qm_X2_playBeat.1, qm_X2_playBeat.2.1, Or.inl (m2 (List.mem_of_getElem? (i := 526) (by decide +kernel)) (by decide +kernel)), qm_X2_playBeat.2.2.1, qm_X2_playBeat.2.2.2.1, qm_X2_playBeat.2.2.2.2.1, qm_X2_playBeat.2.2.2.2.2.1, qm_X2_playBeat.2.2.2.2.2.2.1, qm_X2_playBeat.2.2.2.2.2.2.2⟩
theorem v_X2_91 : CV RX2 91 2 yX2_noteBeat cX2_noteBeat 5 none 3 := ⟨qm_X2_noteBeat.1, qm_X2_noteBeat.2.1, Or.inl (m2 (List.mem_of_getElem? (i := 555) (by decide +kernel)) (by decide +kernel)), qm_X2_noteBeat.2.2.1, qm_X2_noteBeat.2.2.2.1, qm_X2_noteBeat.2.2.2.2.1, qm_X2_noteBeat.2.2.2.2.2.1, qm_X2_noteBeat.2.2.2.2.2.2.1, qm_X2_noteBeat.2.2.2.2.2.2.2⟩
theorem v_X3_25 : CV RX3 25 0 yX0_stateBehind cX0_stateBehind 4 (some .int) 2 := ⟨qm_X0_stateBehind.1, qm_X0_stateBehind.2.1, Or.inl (m2 (List.mem_of_getElem? (i := 673) (by decide +kernel)) (by decide +kernel)), qm_X0_stateBehind.2.2.1, qm_X0_stateBehind.2.2.2.1, qm_X0_stateBehind.2.2.2.2.1, qm_X0_stateBehind.2.2.2.2.2.1, qm_X0_stateBehind.2.2.2.2.2.2.1, qm_X0_stateBehind.2.2.2.2.2.2.2⟩
theorem v_X4_25 : CV RX4 25 4 yX4_byteAt cX4_byteAt 2 (some .int) 1 := ⟨qm_X4_byteAt.1, qm_X4_byteAt.2.1, Or.inl (m2 (List.mem_of_getElem? (i := 400) (by decide +kernel)) (by decide +kernel)), qm_X4_byteAt.2.2.1, qm_X4_byteAt.2.2.2.1, qm_X4_byteAt.2.2.2.2.1, qm_X4_byteAt.2.2.2.2.2.1, qm_X4_byteAt.2.2.2.2.2.2.1, qm_X4_byteAt.2.2.2.2.2.2.2⟩
theorem v_X5_49 : CV RX5 49 4 yX4_faultOfWalkers cX4_faultOfWalkers 2 (some .int) 0 := ⟨qm_X4_faultOfWalkers.1, qm_X4_faultOfWalkers.2.1, Or.inl (m2 (List.mem_of_getElem? (i := 396) (by decide +kernel)) (by decide +kernel)), qm_X4_faultOfWalkers.2.2.1, qm_X4_faultOfWalkers.2.2.2.1, qm_X4_faultOfWalkers.2.2.2.2.1, qm_X4_faultOfWalkers.2.2.2.2.2.1, qm_X4_faultOfWalkers.2.2.2.2.2.2.1, qm_X4_faultOfWalkers.2.2.2.2.2.2.2⟩
theorem v_X5_64 : CV RX5 64 4 yX4_byteAt cX4_byteAt 2 (some .int) 1 := ⟨qm_X4_byteAt.1, qm_X4_byteAt.2.1, Or.inl (m2 (List.mem_of_getElem? (i := 414) (by decide +kernel)) (by decide +kernel)), qm_X4_byteAt.2.2.1, qm_X4_byteAt.2.2.2.1, qm_X4_byteAt.2.2.2.2.1, qm_X4_byteAt.2.2.2.2.2.1, qm_X4_byteAt.2.2.2.2.2.2.1, qm_X4_byteAt.2.2.2.2.2.2.2⟩
theorem v_X5_71 : CV RX5 71 4 yX4_faultOfRoutine cX4_faultOfRoutine 2 (some .int) 0 := ⟨qm_X4_faultOfRoutine.1, qm_X4_faultOfRoutine.2.1, Or.inl (m2 (List.mem_of_getElem? (i := 420) (by decide +kernel)) (by decide +kernel)), qm_X4_faultOfRoutine.2.2.1, qm_X4_faultOfRoutine.2.2.2.1, qm_X4_faultOfRoutine.2.2.2.2.1, qm_X4_faultOfRoutine.2.2.2.2.2.1, qm_X4_faultOfRoutine.2.2.2.2.2.2.1, qm_X4_faultOfRoutine.2.2.2.2.2.2.2⟩
theorem v_X6_46 : CV RX6 46 6 yX6_add cX6_add 4 none 3 := ⟨qm_X6_add.1, qm_X6_add.2.1, Or.inl (m2 (List.mem_of_getElem? (i := 522) (by decide +kernel)) (by decide +kernel)), qm_X6_add.2.2.1, qm_X6_add.2.2.2.1, qm_X6_add.2.2.2.2.1, qm_X6_add.2.2.2.2.2.1, qm_X6_add.2.2.2.2.2.2.1, qm_X6_add.2.2.2.2.2.2.2⟩
theorem v_X7_100 : CV RX7 100 7 yX7_takeTexts cX7_takeTexts 1 none 0 := ⟨qm_X7_takeTexts.1, qm_X7_takeTexts.2.1, Or.inl (m2 (List.mem_of_getElem? (i := 388) (by decide +kernel)) (by decide +kernel)), qm_X7_takeTexts.2.2.1, qm_X7_takeTexts.2.2.2.1, qm_X7_takeTexts.2.2.2.2.1, qm_X7_takeTexts.2.2.2.2.2.1, qm_X7_takeTexts.2.2.2.2.2.2.1, qm_X7_takeTexts.2.2.2.2.2.2.2⟩
theorem v_X7_106 : CV RX7 106 4 yX4_faultOfWalkers cX4_faultOfWalkers 2 (some .int) 0 := ⟨qm_X4_faultOfWalkers.1, qm_X4_faultOfWalkers.2.1, Or.inl (m2 (List.mem_of_getElem? (i := 444) (by decide +kernel)) (by decide +kernel)), qm_X4_faultOfWalkers.2.2.1, qm_X4_faultOfWalkers.2.2.2.1, qm_X4_faultOfWalkers.2.2.2.2.1, qm_X4_faultOfWalkers.2.2.2.2.2.1, qm_X4_faultOfWalkers.2.2.2.2.2.2.1, qm_X4_faultOfWalkers.2.2.2.2.2.2.2⟩
theorem v_X7_110 : CV RX7 110 4 yX4_faultOfRoutine cX4_faultOfRoutine 2 (some .int) 0 := ⟨qm_X4_faultOfRoutine.1, qm_X4_faultOfRoutine.2.1, Or.inl (m2 (List.mem_of_getElem? (i := 445) (by decide +kernel)) (by decide +kernel)), qm_X4_faultOfRoutine.2.2.1, qm_X4_faultOfRoutine.2.2.2.1, qm_X4_faultOfRoutine.2.2.2.2.1, qm_X4_faultOfRoutine.2.2.2.2.2.1, qm_X4_faultOfRoutine.2.2.2.2.2.2.1, qm_X4_faultOfRoutine.2.2.2.2.2.2.2⟩
theorem v_X7_113 : CV RX7 113 7 yX7_isWalker cX7_isWalker 2 (some .boolean) 1 := ⟨qm_X7_isWalker.1, qm_X7_isWalker.2.1, Or.inl (m2 (List.mem_of_getElem? (i := 450) (by decide +kernel)) (by decide +kernel)), qm_X7_isWalker.2.2.1, qm_X7_isWalker.2.2.2.1, qm_X7_isWalker.2.2.2.2.1, qm_X7_isWalker.2.2.2.2.2.1, qm_X7_isWalker.2.2.2.2.2.2.1, qm_X7_isWalker.2.2.2.2.2.2.2⟩
theorem v_X7_135 : CV RX7 135 7 yX7_forgetShows cX7_forgetShows 1 none 0 := ⟨qm_X7_forgetShows.1, qm_X7_forgetShows.2.1, Or.inl (m2 (List.mem_of_getElem? (i := 428) (by decide +kernel)) (by decide +kernel)), qm_X7_forgetShows.2.2.1, qm_X7_forgetShows.2.2.2.1, qm_X7_forgetShows.2.2.2.2.1, qm_X7_forgetShows.2.2.2.2.2.1, qm_X7_forgetShows.2.2.2.2.2.2.1, qm_X7_forgetShows.2.2.2.2.2.2.2⟩
theorem v_X7_147 : CV RX7 147 5 yX5_hasRoomForEvent cX5_hasRoomForEvent 1 (some .boolean) 0 := ⟨qm_X5_hasRoomForEvent.1, qm_X5_hasRoomForEvent.2.1, Or.inl (m2 (List.mem_of_getElem? (i := 474) (by decide +kernel)) (by decide +kernel)), qm_X5_hasRoomForEvent.2.2.1, qm_X5_hasRoomForEvent.2.2.2.1, qm_X5_hasRoomForEvent.2.2.2.2.1, qm_X5_hasRoomForEvent.2.2.2.2.2.1, qm_X5_hasRoomForEvent.2.2.2.2.2.2.1, qm_X5_hasRoomForEvent.2.2.2.2.2.2.2⟩
theorem v_X7_150 : CV RX7 150 5 yX5_addEvent cX5_addEvent 4 none 3 := ⟨qm_X5_addEvent.1, qm_X5_addEvent.2.1, Or.inl (m2 (List.mem_of_getElem? (i := 478) (by decide +kernel)) (by decide +kernel)), qm_X5_addEvent.2.2.1, qm_X5_addEvent.2.2.2.1, qm_X5_addEvent.2.2.2.2.1, qm_X5_addEvent.2.2.2.2.2.1, qm_X5_addEvent.2.2.2.2.2.2.1, qm_X5_addEvent.2.2.2.2.2.2.2⟩
theorem v_X7_163 : CV RX7 163 7 yX7_found cX7_found 2 (some .int) 1 := ⟨qm_X7_found.1, qm_X7_found.2.1, Or.inl (m2 (List.mem_of_getElem? (i := 493) (by decide +kernel)) (by decide +kernel)), qm_X7_found.2.2.1, qm_X7_found.2.2.2.1, qm_X7_found.2.2.2.2.1, qm_X7_found.2.2.2.2.2.1, qm_X7_found.2.2.2.2.2.2.1, qm_X7_found.2.2.2.2.2.2.2⟩
theorem v_X7_171 : CV RX7 171 7 yX7_shown cX7_shown 1 (some (.object "WireWalkers$Show")) 0 := ⟨qm_X7_shown.1, qm_X7_shown.2.1, Or.inl (m2 (List.mem_of_getElem? (i := 501) (by decide +kernel)) (by decide +kernel)), qm_X7_shown.2.2.1, qm_X7_shown.2.2.2.1, qm_X7_shown.2.2.2.2.1, qm_X7_shown.2.2.2.2.2.1, qm_X7_shown.2.2.2.2.2.2.1, qm_X7_shown.2.2.2.2.2.2.2⟩
theorem v_X7_179 : CV RX7 179 0 yX0_stateBehind cX0_stateBehind 4 (some .int) 2 := ⟨qm_X0_stateBehind.1, qm_X0_stateBehind.2.1, Or.inl (m2 (List.mem_of_getElem? (i := 572) (by decide +kernel)) (by decide +kernel)), qm_X0_stateBehind.2.2.1, qm_X0_stateBehind.2.2.2.1, qm_X0_stateBehind.2.2.2.2.1, qm_X0_stateBehind.2.2.2.2.2.1, qm_X0_stateBehind.2.2.2.2.2.2.1, qm_X0_stateBehind.2.2.2.2.2.2.2⟩
theorem v_X7_185 : CV RX7 185 0 yX0_placeBehind cX0_placeBehind 4 (some .int) 2 := ⟨qm_X0_placeBehind.1, qm_X0_placeBehind.2.1, Or.inl (m2 (List.mem_of_getElem? (i := 576) (by decide +kernel)) (by decide +kernel)), qm_X0_placeBehind.2.2.1, qm_X0_placeBehind.2.2.2.1, qm_X0_placeBehind.2.2.2.2.1, qm_X0_placeBehind.2.2.2.2.2.1, qm_X0_placeBehind.2.2.2.2.2.2.1, qm_X0_placeBehind.2.2.2.2.2.2.2⟩
theorem v_X7_189 : CV RX7 189 0 yX0_leanBehind cX0_leanBehind 4 (some .int) 2 := ⟨qm_X0_leanBehind.1, qm_X0_leanBehind.2.1, Or.inl (m2 (List.mem_of_getElem? (i := 585) (by decide +kernel)) (by decide +kernel)), qm_X0_leanBehind.2.2.1, qm_X0_leanBehind.2.2.2.1, qm_X0_leanBehind.2.2.2.2.1, qm_X0_leanBehind.2.2.2.2.2.1, qm_X0_leanBehind.2.2.2.2.2.2.1, qm_X0_leanBehind.2.2.2.2.2.2.2⟩
theorem v_X7_216 : CV RX7 216 7 yX7_firstOver cX7_firstOver 5 (some .int) 0 := ⟨qm_X7_firstOver.1, qm_X7_firstOver.2.1, Or.inl (m2 (List.mem_of_getElem? (i := 609) (by decide +kernel)) (by decide +kernel)), qm_X7_firstOver.2.2.1, qm_X7_firstOver.2.2.2.1, qm_X7_firstOver.2.2.2.2.1, qm_X7_firstOver.2.2.2.2.2.1, qm_X7_firstOver.2.2.2.2.2.2.1, qm_X7_firstOver.2.2.2.2.2.2.2⟩
theorem v_X7_219 : CV RX7 219 7 yX7_farthestLeaning cX7_farthestLeaning 5 (some .int) 0 := ⟨qm_X7_farthestLeaning.1, qm_X7_farthestLeaning.2.1, Or.inl (m2 (List.mem_of_getElem? (i := 613) (by decide +kernel)) (by decide +kernel)), qm_X7_farthestLeaning.2.2.1, qm_X7_farthestLeaning.2.2.2.1, qm_X7_farthestLeaning.2.2.2.2.1, qm_X7_farthestLeaning.2.2.2.2.2.1, qm_X7_farthestLeaning.2.2.2.2.2.2.1, qm_X7_farthestLeaning.2.2.2.2.2.2.2⟩
theorem v_X7_225 : CV RX7 225 7 yX7_chooseFor cX7_chooseFor 6 none 3 := ⟨qm_X7_chooseFor.1, qm_X7_chooseFor.2.1, Or.inl (m2 (List.mem_of_getElem? (i := 625) (by decide +kernel)) (by decide +kernel)), qm_X7_chooseFor.2.2.1, qm_X7_chooseFor.2.2.2.1, qm_X7_chooseFor.2.2.2.2.1, qm_X7_chooseFor.2.2.2.2.2.1, qm_X7_chooseFor.2.2.2.2.2.2.1, qm_X7_chooseFor.2.2.2.2.2.2.2⟩
theorem v_X7_229 : CV RX7 229 7 yX7_spareFewest cX7_spareFewest 3 (some .int) 0 := ⟨qm_X7_spareFewest.1, qm_X7_spareFewest.2.1, Or.inl (m2 (List.mem_of_getElem? (i := 641) (by decide +kernel)) (by decide +kernel)), qm_X7_spareFewest.2.2.1, qm_X7_spareFewest.2.2.2.1, qm_X7_spareFewest.2.2.2.2.1, qm_X7_spareFewest.2.2.2.2.2.1, qm_X7_spareFewest.2.2.2.2.2.2.1, qm_X7_spareFewest.2.2.2.2.2.2.2⟩
theorem v_X7_232 : CV RX7 232 2 yX2_play cX2_play 11 none 4 := ⟨qm_X2_play.1, qm_X2_play.2.1, Or.inl (m2 (List.mem_of_getElem? (i := 505) (by decide +kernel)) (by decide +kernel)), qm_X2_play.2.2.1, qm_X2_play.2.2.2.1, qm_X2_play.2.2.2.2.1, qm_X2_play.2.2.2.2.2.1, qm_X2_play.2.2.2.2.2.2.1, qm_X2_play.2.2.2.2.2.2.2⟩
theorem v_X7_236 : CV RX7 236 7 yX7_nobodyFallsWithout cX7_nobodyFallsWithout 2 (some .boolean) 1 := ⟨qm_X7_nobodyFallsWithout.1, qm_X7_nobodyFallsWithout.2.1, Or.inl (m2 (List.mem_of_getElem? (i := 645) (by decide +kernel)) (by decide +kernel)), qm_X7_nobodyFallsWithout.2.2.1, qm_X7_nobodyFallsWithout.2.2.2.1, qm_X7_nobodyFallsWithout.2.2.2.2.1, qm_X7_nobodyFallsWithout.2.2.2.2.2.1, qm_X7_nobodyFallsWithout.2.2.2.2.2.2.1, qm_X7_nobodyFallsWithout.2.2.2.2.2.2.2⟩
theorem v_X7_239 : CV RX7 239 3 yX3_hasRoom cX3_hasRoom 1 (some .boolean) 0 := ⟨qm_X3_hasRoom.1, qm_X3_hasRoom.2.1, Or.inl (m2 (List.mem_of_getElem? (i := 653) (by decide +kernel)) (by decide +kernel)), qm_X3_hasRoom.2.2.1, qm_X3_hasRoom.2.2.2.1, qm_X3_hasRoom.2.2.2.2.1, qm_X3_hasRoom.2.2.2.2.2.1, qm_X3_hasRoom.2.2.2.2.2.2.1, qm_X3_hasRoom.2.2.2.2.2.2.2⟩
theorem v_X7_240 : CV RX7 240 3 yX3_add cX3_add 4 none 3 := ⟨qm_X3_add.1, qm_X3_add.2.1, Or.inl (m2 (List.mem_of_getElem? (i := 657) (by decide +kernel)) (by decide +kernel)), qm_X3_add.2.2.1, qm_X3_add.2.2.2.1, qm_X3_add.2.2.2.2.1, qm_X3_add.2.2.2.2.2.1, qm_X3_add.2.2.2.2.2.2.1, qm_X3_add.2.2.2.2.2.2.2⟩
theorem v_X7_243 : CV RX7 243 3 yX3_fit cX3_fit 4 (some .boolean) 2 := ⟨qm_X3_fit.1, qm_X3_fit.2.1, Or.inl (m2 (List.mem_of_getElem? (i := 669) (by decide +kernel)) (by decide +kernel)), qm_X3_fit.2.2.1, qm_X3_fit.2.2.2.1, qm_X3_fit.2.2.2.2.1, qm_X3_fit.2.2.2.2.2.1, qm_X3_fit.2.2.2.2.2.2.1, qm_X3_fit.2.2.2.2.2.2.2⟩
theorem v_X7_247 : CV RX7 247 7 yX7_fittingPoles cX7_fittingPoles 5 (some .int) 1 := ⟨qm_X7_fittingPoles.1, qm_X7_fittingPoles.2.1, Or.inl (m2 (List.mem_of_getElem? (i := 678) (by decide +kernel)) (by decide +kernel)), qm_X7_fittingPoles.2.2.1, qm_X7_fittingPoles.2.2.2.1, qm_X7_fittingPoles.2.2.2.2.1, qm_X7_fittingPoles.2.2.2.2.2.1, qm_X7_fittingPoles.2.2.2.2.2.2.1, qm_X7_fittingPoles.2.2.2.2.2.2.2⟩
theorem v_X7_250 : CV RX7 250 7 yX7_fittingSorts cX7_fittingSorts 5 (some .int) 1 := ⟨qm_X7_fittingSorts.1, qm_X7_fittingSorts.2.1, Or.inl (m2 (List.mem_of_getElem? (i := 691) (by decide +kernel)) (by decide +kernel)), qm_X7_fittingSorts.2.2.1, qm_X7_fittingSorts.2.2.2.1, qm_X7_fittingSorts.2.2.2.2.1, qm_X7_fittingSorts.2.2.2.2.2.1, qm_X7_fittingSorts.2.2.2.2.2.2.1, qm_X7_fittingSorts.2.2.2.2.2.2.2⟩
theorem v_X7_253 : CV RX7 253 7 yX7_mostAlike cX7_mostAlike 8 (some .int) 2 := ⟨qm_X7_mostAlike.1, qm_X7_mostAlike.2.1, Or.inl (m2 (List.mem_of_getElem? (i := 699) (by decide +kernel)) (by decide +kernel)), qm_X7_mostAlike.2.2.1, qm_X7_mostAlike.2.2.2.1, qm_X7_mostAlike.2.2.2.2.1, qm_X7_mostAlike.2.2.2.2.2.1, qm_X7_mostAlike.2.2.2.2.2.2.1, qm_X7_mostAlike.2.2.2.2.2.2.2⟩
theorem v_X7_260 : CV RX7 260 7 yX7_weighOdds cX7_weighOdds 2 none 0 := ⟨qm_X7_weighOdds.1, qm_X7_weighOdds.2.1, Or.inl (m2 (List.mem_of_getElem? (i := 713) (by decide +kernel)) (by decide +kernel)), qm_X7_weighOdds.2.2.1, qm_X7_weighOdds.2.2.2.1, qm_X7_weighOdds.2.2.2.2.1, qm_X7_weighOdds.2.2.2.2.2.1, qm_X7_weighOdds.2.2.2.2.2.2.1, qm_X7_weighOdds.2.2.2.2.2.2.2⟩
theorem v_X7_263 : CV RX7 263 7 yX7_weightOf cX7_weightOf 6 (some .long) 2 := ⟨qm_X7_weightOf.1, qm_X7_weightOf.2.1, Or.inl (m2 (List.mem_of_getElem? (i := 721) (by decide +kernel)) (by decide +kernel)), qm_X7_weightOf.2.2.1, qm_X7_weightOf.2.2.2.1, qm_X7_weightOf.2.2.2.2.1, qm_X7_weightOf.2.2.2.2.2.1, qm_X7_weightOf.2.2.2.2.2.2.1, qm_X7_weightOf.2.2.2.2.2.2.2⟩
theorem v_X7_270 : CV RX7 270 7 yX7_markPlaces cX7_markPlaces 4 none 1 := ⟨qm_X7_markPlaces.1, qm_X7_markPlaces.2.1, Or.inl (m2 (List.mem_of_getElem? (i := 682) (by decide +kernel)) (by decide +kernel)), qm_X7_markPlaces.2.2.1, qm_X7_markPlaces.2.2.2.1, qm_X7_markPlaces.2.2.2.2.1, qm_X7_markPlaces.2.2.2.2.2.1, qm_X7_markPlaces.2.2.2.2.2.2.1, qm_X7_markPlaces.2.2.2.2.2.2.2⟩
theorem v_X7_273 : CV RX7 273 0 yX0_markOfPlaces cX0_markOfPlaces 6 (some .long) 2 := ⟨qm_X0_markOfPlaces.1, qm_X0_markOfPlaces.2.1, Or.inl (m2 (List.mem_of_getElem? (i := 686) (by decide +kernel)) (by decide +kernel)), qm_X0_markOfPlaces.2.2.1, qm_X0_markOfPlaces.2.2.2.1, qm_X0_markOfPlaces.2.2.2.2.1, qm_X0_markOfPlaces.2.2.2.2.2.1, qm_X0_markOfPlaces.2.2.2.2.2.2.1, qm_X0_markOfPlaces.2.2.2.2.2.2.2⟩
theorem v_X7_276 : CV RX7 276 7 yX7_markBehind cX7_markBehind 4 (some .long) 2 := ⟨qm_X7_markBehind.1, qm_X7_markBehind.2.1, Or.inl (m2 (List.mem_of_getElem? (i := 703) (by decide +kernel)) (by decide +kernel)), qm_X7_markBehind.2.2.1, qm_X7_markBehind.2.2.2.1, qm_X7_markBehind.2.2.2.2.1, qm_X7_markBehind.2.2.2.2.2.1, qm_X7_markBehind.2.2.2.2.2.2.1, qm_X7_markBehind.2.2.2.2.2.2.2⟩
theorem v_X7_284 : CV RX7 284 2 yX2_bitsOfOver cX2_bitsOfOver 4 (some .int) 1 := ⟨qm_X2_bitsOfOver.1, qm_X2_bitsOfOver.2.1, Or.inl (m2 (List.mem_of_getElem? (i := 717) (by decide +kernel)) (by decide +kernel)), qm_X2_bitsOfOver.2.2.1, qm_X2_bitsOfOver.2.2.2.1, qm_X2_bitsOfOver.2.2.2.2.1, qm_X2_bitsOfOver.2.2.2.2.2.1, qm_X2_bitsOfOver.2.2.2.2.2.2.1, qm_X2_bitsOfOver.2.2.2.2.2.2.2⟩
theorem v_X7_290 : CV RX7 290 1 yX1_makeNew cX1_makeNew 3 none 2 := ⟨qm_X1_makeNew.1, qm_X1_makeNew.2.1, Or.inl (m2 (List.mem_of_getElem? (i := 738) (by decide +kernel)) (by decide +kernel)), qm_X1_makeNew.2.2.1, qm_X1_makeNew.2.2.2.1, qm_X1_makeNew.2.2.2.2.1, qm_X1_makeNew.2.2.2.2.2.1, qm_X1_makeNew.2.2.2.2.2.2.1, qm_X1_makeNew.2.2.2.2.2.2.2⟩
theorem v_X7_298 : CV RX7 298 1 yX1_put cX1_put 3 none 2 := ⟨qm_X1_put.1, qm_X1_put.2.1, Or.inl (m2 (List.mem_of_getElem? (i := 756) (by decide +kernel)) (by decide +kernel)), qm_X1_put.2.2.1, qm_X1_put.2.2.2.1, qm_X1_put.2.2.2.2.1, qm_X1_put.2.2.2.2.2.1, qm_X1_put.2.2.2.2.2.2.1, qm_X1_put.2.2.2.2.2.2.2⟩
theorem v_X7_304 : CV RX7 304 1 yX1_hasRun cX1_hasRun 3 (some .boolean) 2 := ⟨qm_X1_hasRun.1, qm_X1_hasRun.2.1, Or.inl (m2 (List.mem_of_getElem? (i := 772) (by decide +kernel)) (by decide +kernel)), qm_X1_hasRun.2.2.1, qm_X1_hasRun.2.2.2.1, qm_X1_hasRun.2.2.2.2.1, qm_X1_hasRun.2.2.2.2.2.1, qm_X1_hasRun.2.2.2.2.2.2.1, qm_X1_hasRun.2.2.2.2.2.2.2⟩
theorem v_X7_319 : CV RX7 319 7 yX7_count cX7_count 2 (some .int) 1 := ⟨qm_X7_count.1, qm_X7_count.2.1, Or.inl (m2 (List.mem_of_getElem? (i := 793) (by decide +kernel)) (by decide +kernel)), qm_X7_count.2.2.1, qm_X7_count.2.2.2.1, qm_X7_count.2.2.2.2.1, qm_X7_count.2.2.2.2.2.1, qm_X7_count.2.2.2.2.2.2.1, qm_X7_count.2.2.2.2.2.2.2⟩
theorem v_X7_326 : CV RX7 326 7 yX7_fault cX7_fault 2 (some .int) 1 := ⟨qm_X7_fault.1, qm_X7_fault.2.1, Or.inl (m2 (List.mem_of_getElem? (i := 798) (by decide +kernel)) (by decide +kernel)), qm_X7_fault.2.2.1, qm_X7_fault.2.2.2.1, qm_X7_fault.2.2.2.2.1, qm_X7_fault.2.2.2.2.2.1, qm_X7_fault.2.2.2.2.2.2.1, qm_X7_fault.2.2.2.2.2.2.2⟩
theorem v_X7_329 : CV RX7 329 7 yX7_routine cX7_routine 2 (some .int) 1 := ⟨qm_X7_routine.1, qm_X7_routine.2.1, Or.inl (m2 (List.mem_of_getElem? (i := 799) (by decide +kernel)) (by decide +kernel)), qm_X7_routine.2.2.1, qm_X7_routine.2.2.2.1, qm_X7_routine.2.2.2.2.1, qm_X7_routine.2.2.2.2.2.1, qm_X7_routine.2.2.2.2.2.2.1, qm_X7_routine.2.2.2.2.2.2.2⟩
theorem v_X7_332 : CV RX7 332 7 yX7_sway cX7_sway 2 (some .int) 1 := ⟨qm_X7_sway.1, qm_X7_sway.2.1, Or.inl (m2 (List.mem_of_getElem? (i := 800) (by decide +kernel)) (by decide +kernel)), qm_X7_sway.2.2.1, qm_X7_sway.2.2.2.1, qm_X7_sway.2.2.2.2.1, qm_X7_sway.2.2.2.2.2.1, qm_X7_sway.2.2.2.2.2.2.1, qm_X7_sway.2.2.2.2.2.2.2⟩
theorem v_X7_335 : CV RX7 335 7 yX7_sees cX7_sees 5 (some .int) 2 := ⟨qm_X7_sees.1, qm_X7_sees.2.1, Or.inl (m2 (List.mem_of_getElem? (i := 801) (by decide +kernel)) (by decide +kernel)), qm_X7_sees.2.2.1, qm_X7_sees.2.2.2.1, qm_X7_sees.2.2.2.2.1, qm_X7_sees.2.2.2.2.2.1, qm_X7_sees.2.2.2.2.2.2.1, qm_X7_sees.2.2.2.2.2.2.2⟩
theorem v_X7_338 : CV RX7 338 7 yX7_mixedWalk cX7_mixedWalk 7 (some .long) 2 := ⟨qm_X7_mixedWalk.1, qm_X7_mixedWalk.2.1, Or.inl (m2 (List.mem_of_getElem? (i := 802) (by decide +kernel)) (by decide +kernel)), qm_X7_mixedWalk.2.2.1, qm_X7_mixedWalk.2.2.2.1, qm_X7_mixedWalk.2.2.2.2.1, qm_X7_mixedWalk.2.2.2.2.2.1, qm_X7_mixedWalk.2.2.2.2.2.2.1, qm_X7_mixedWalk.2.2.2.2.2.2.2⟩
theorem v_X7_342 : CV RX7 342 7 yX7_mixedPlans cX7_mixedPlans 6 (some .long) 2 := ⟨qm_X7_mixedPlans.1, qm_X7_mixedPlans.2.1, Or.inl (m2 (List.mem_of_getElem? (i := 814) (by decide +kernel)) (by decide +kernel)), qm_X7_mixedPlans.2.2.1, qm_X7_mixedPlans.2.2.2.1, qm_X7_mixedPlans.2.2.2.2.1, qm_X7_mixedPlans.2.2.2.2.2.1, qm_X7_mixedPlans.2.2.2.2.2.2.1, qm_X7_mixedPlans.2.2.2.2.2.2.2⟩
theorem v_X7_345 : CV RX7 345 7 yX7_mixedRest cX7_mixedRest 6 (some .long) 1 := ⟨qm_X7_mixedRest.1, qm_X7_mixedRest.2.1, Or.inl (m2 (List.mem_of_getElem? (i := 827) (by decide +kernel)) (by decide +kernel)), qm_X7_mixedRest.2.2.1, qm_X7_mixedRest.2.2.2.1, qm_X7_mixedRest.2.2.2.2.1, qm_X7_mixedRest.2.2.2.2.2.1, qm_X7_mixedRest.2.2.2.2.2.2.1, qm_X7_mixedRest.2.2.2.2.2.2.2⟩
theorem v_X7_349 : CV RX7 349 7 yX7_walker cX7_walker 3 (some .int) 2 := ⟨qm_X7_walker.1, qm_X7_walker.2.1, Or.inl (m2 (List.mem_of_getElem? (i := 806) (by decide +kernel)) (by decide +kernel)), qm_X7_walker.2.2.1, qm_X7_walker.2.2.2.1, qm_X7_walker.2.2.2.2.1, qm_X7_walker.2.2.2.2.2.1, qm_X7_walker.2.2.2.2.2.2.1, qm_X7_walker.2.2.2.2.2.2.2⟩
theorem v_X7_352 : CV RX7 352 7 yX7_mixedBehind cX7_mixedBehind 5 (some .long) 3 := ⟨qm_X7_mixedBehind.1, qm_X7_mixedBehind.2.1, Or.inl (m2 (List.mem_of_getElem? (i := 807) (by decide +kernel)) (by decide +kernel)), qm_X7_mixedBehind.2.2.1, qm_X7_mixedBehind.2.2.2.1, qm_X7_mixedBehind.2.2.2.2.1, qm_X7_mixedBehind.2.2.2.2.2.1, qm_X7_mixedBehind.2.2.2.2.2.2.1, qm_X7_mixedBehind.2.2.2.2.2.2.2⟩
theorem v_X7_356 : CV RX7 356 7 yX7_ends cX7_ends 4 (some .int) 2 := ⟨qm_X7_ends.1, qm_X7_ends.2.1, Or.inl (m2 (List.mem_of_getElem? (i := 813) (by decide +kernel)) (by decide +kernel)), qm_X7_ends.2.2.1, qm_X7_ends.2.2.2.1, qm_X7_ends.2.2.2.2.1, qm_X7_ends.2.2.2.2.2.1, qm_X7_ends.2.2.2.2.2.2.1, qm_X7_ends.2.2.2.2.2.2.2⟩
theorem v_X7_359 : CV RX7 359 7 yX7_at cX7_at 5 (some .int) 3 := ⟨qm_X7_at.1, qm_X7_at.2.1, Or.inl (m2 (List.mem_of_getElem? (i := 811) (by decide +kernel)) (by decide +kernel)), qm_X7_at.2.2.1, qm_X7_at.2.2.2.1, qm_X7_at.2.2.2.2.1, qm_X7_at.2.2.2.2.2.1, qm_X7_at.2.2.2.2.2.2.1, qm_X7_at.2.2.2.2.2.2.2⟩
theorem v_X7_363 : CV RX7 363 7 yX7_lean cX7_lean 3 (some .int) 2 := ⟨qm_X7_lean.1, qm_X7_lean.2.1, Or.inl (m2 (List.mem_of_getElem? (i := 812) (by decide +kernel)) (by decide +kernel)), qm_X7_lean.2.2.1, qm_X7_lean.2.2.2.1, qm_X7_lean.2.2.2.2.1, qm_X7_lean.2.2.2.2.2.1, qm_X7_lean.2.2.2.2.2.2.1, qm_X7_lean.2.2.2.2.2.2.2⟩
theorem v_X7_366 : CV RX7 366 7 yX7_start cX7_start 3 (some .int) 2 := ⟨qm_X7_start.1, qm_X7_start.2.1, Or.inl (m2 (List.mem_of_getElem? (i := 818) (by decide +kernel)) (by decide +kernel)), qm_X7_start.2.2.1, qm_X7_start.2.2.2.1, qm_X7_start.2.2.2.2.1, qm_X7_start.2.2.2.2.2.1, qm_X7_start.2.2.2.2.2.2.1, qm_X7_start.2.2.2.2.2.2.2⟩
theorem v_X7_369 : CV RX7 369 7 yX7_mixedBest cX7_mixedBest 4 (some .long) 2 := ⟨qm_X7_mixedBest.1, qm_X7_mixedBest.2.1, Or.inl (m2 (List.mem_of_getElem? (i := 819) (by decide +kernel)) (by decide +kernel)), qm_X7_mixedBest.2.2.1, qm_X7_mixedBest.2.2.2.1, qm_X7_mixedBest.2.2.2.2.1, qm_X7_mixedBest.2.2.2.2.2.1, qm_X7_mixedBest.2.2.2.2.2.2.1, qm_X7_mixedBest.2.2.2.2.2.2.2⟩
theorem v_X7_372 : CV RX7 372 7 yX7_hold cX7_hold 3 (some .int) 2 := ⟨qm_X7_hold.1, qm_X7_hold.2.1, Or.inl (m2 (List.mem_of_getElem? (i := 823) (by decide +kernel)) (by decide +kernel)), qm_X7_hold.2.2.1, qm_X7_hold.2.2.2.1, qm_X7_hold.2.2.2.2.1, qm_X7_hold.2.2.2.2.2.1, qm_X7_hold.2.2.2.2.2.2.1, qm_X7_hold.2.2.2.2.2.2.2⟩
theorem v_X7_375 : CV RX7 375 7 yX7_was cX7_was 3 (some .int) 2 := ⟨qm_X7_was.1, qm_X7_was.2.1, Or.inl (m2 (List.mem_of_getElem? (i := 824) (by decide +kernel)) (by decide +kernel)), qm_X7_was.2.2.1, qm_X7_was.2.2.2.1, qm_X7_was.2.2.2.2.1, qm_X7_was.2.2.2.2.2.1, qm_X7_was.2.2.2.2.2.2.1, qm_X7_was.2.2.2.2.2.2.2⟩
theorem v_X7_378 : CV RX7 378 7 yX7_ask cX7_ask 7 (some .int) 1 := ⟨qm_X7_ask.1, qm_X7_ask.2.1, Or.inl (m2 (List.mem_of_getElem? (i := 825) (by decide +kernel)) (by decide +kernel)), qm_X7_ask.2.2.1, qm_X7_ask.2.2.2.1, qm_X7_ask.2.2.2.2.1, qm_X7_ask.2.2.2.2.2.1, qm_X7_ask.2.2.2.2.2.2.1, qm_X7_ask.2.2.2.2.2.2.2⟩
theorem v_X7_381 : CV RX7 381 7 yX7_chance cX7_chance 9 (some .long) 3 := ⟨qm_X7_chance.1, qm_X7_chance.2.1, Or.inl (m2 (List.mem_of_getElem? (i := 826) (by decide +kernel)) (by decide +kernel)), qm_X7_chance.2.2.1, qm_X7_chance.2.2.2.1, qm_X7_chance.2.2.2.2.1, qm_X7_chance.2.2.2.2.2.1, qm_X7_chance.2.2.2.2.2.2.1, qm_X7_chance.2.2.2.2.2.2.2⟩
theorem v_X7_385 : CV RX7 385 7 yX7_sum cX7_sum 3 (some .int) 1 := ⟨qm_X7_sum.1, qm_X7_sum.2.1, Or.inl (m2 (List.mem_of_getElem? (i := 831) (by decide +kernel)) (by decide +kernel)), qm_X7_sum.2.2.1, qm_X7_sum.2.2.2.1, qm_X7_sum.2.2.2.2.1, qm_X7_sum.2.2.2.2.2.1, qm_X7_sum.2.2.2.2.2.2.1, qm_X7_sum.2.2.2.2.2.2.2⟩
theorem v_X7_388 : CV RX7 388 7 yX7_who cX7_who 2 (some .int) 1 := ⟨qm_X7_who.1, qm_X7_who.2.1, Or.inl (m2 (List.mem_of_getElem? (i := 832) (by decide +kernel)) (by decide +kernel)), qm_X7_who.2.2.1, qm_X7_who.2.2.2.1, qm_X7_who.2.2.2.2.1, qm_X7_who.2.2.2.2.2.1, qm_X7_who.2.2.2.2.2.2.1, qm_X7_who.2.2.2.2.2.2.2⟩
theorem v_X7_391 : CV RX7 391 7 yX7_bare cX7_bare 6 (some .int) 0 := ⟨qm_X7_bare.1, qm_X7_bare.2.1, Or.inl (m2 (List.mem_of_getElem? (i := 833) (by decide +kernel)) (by decide +kernel)), qm_X7_bare.2.2.1, qm_X7_bare.2.2.2.1, qm_X7_bare.2.2.2.2.1, qm_X7_bare.2.2.2.2.2.1, qm_X7_bare.2.2.2.2.2.2.1, qm_X7_bare.2.2.2.2.2.2.2⟩
theorem v_X7_394 : CV RX7 394 7 yX7_act cX7_act 3 (some .int) 2 := ⟨qm_X7_act.1, qm_X7_act.2.1, Or.inl (m2 (List.mem_of_getElem? (i := 834) (by decide +kernel)) (by decide +kernel)), qm_X7_act.2.2.1, qm_X7_act.2.2.2.1, qm_X7_act.2.2.2.2.1, qm_X7_act.2.2.2.2.2.1, qm_X7_act.2.2.2.2.2.2.1, qm_X7_act.2.2.2.2.2.2.2⟩
theorem v_X7_397 : CV RX7 397 7 yX7_spare cX7_spare 3 (some .int) 1 := ⟨qm_X7_spare.1, qm_X7_spare.2.1, Or.inl (m2 (List.mem_of_getElem? (i := 835) (by decide +kernel)) (by decide +kernel)), qm_X7_spare.2.2.1, qm_X7_spare.2.2.2.1, qm_X7_spare.2.2.2.2.1, qm_X7_spare.2.2.2.2.2.1, qm_X7_spare.2.2.2.2.2.2.1, qm_X7_spare.2.2.2.2.2.2.2⟩
theorem v_X7_400 : CV RX7 400 7 yX7_never cX7_never 3 (some .int) 0 := ⟨qm_X7_never.1, qm_X7_never.2.1, Or.inl (m2 (List.mem_of_getElem? (i := 836) (by decide +kernel)) (by decide +kernel)), qm_X7_never.2.2.1, qm_X7_never.2.2.2.1, qm_X7_never.2.2.2.2.1, qm_X7_never.2.2.2.2.2.1, qm_X7_never.2.2.2.2.2.2.1, qm_X7_never.2.2.2.2.2.2.2⟩
theorem v_X7_403 : CV RX7 403 7 yX7_shows cX7_shows 6 (some .int) 3 := ⟨qm_X7_shows.1, qm_X7_shows.2.1, Or.inl (m2 (List.mem_of_getElem? (i := 837) (by decide +kernel)) (by decide +kernel)), qm_X7_shows.2.2.1, qm_X7_shows.2.2.2.1, qm_X7_shows.2.2.2.2.1, qm_X7_shows.2.2.2.2.2.1, qm_X7_shows.2.2.2.2.2.2.1, qm_X7_shows.2.2.2.2.2.2.2⟩
theorem v_X7_408 : CV RX7 408 5 yX5_takeWalkers cX5_takeWalkers 4 none 1 := ⟨qm_X5_takeWalkers.1, qm_X5_takeWalkers.2.1, Or.inl (m2 (List.mem_of_getElem? (i := 392) (by decide +kernel)) (by decide +kernel)), qm_X5_takeWalkers.2.2.1, qm_X5_takeWalkers.2.2.2.1, qm_X5_takeWalkers.2.2.2.2.1, qm_X5_takeWalkers.2.2.2.2.2.1, qm_X5_takeWalkers.2.2.2.2.2.2.1, qm_X5_takeWalkers.2.2.2.2.2.2.2⟩
theorem v_X7_412 : CV RX7 412 5 yX5_takeRoutine cX5_takeRoutine 4 none 1 := ⟨qm_X5_takeRoutine.1, qm_X5_takeRoutine.2.1, Or.inl (m2 (List.mem_of_getElem? (i := 416) (by decide +kernel)) (by decide +kernel)), qm_X5_takeRoutine.2.2.1, qm_X5_takeRoutine.2.2.2.1, qm_X5_takeRoutine.2.2.2.2.1, qm_X5_takeRoutine.2.2.2.2.2.1, qm_X5_takeRoutine.2.2.2.2.2.2.1, qm_X5_takeRoutine.2.2.2.2.2.2.2⟩
theorem v_X7_89 : CV RX7 89 7 yX7_textOf cX7_textOf 2 (some (.object "WireWalkers$Text")) 1 := ⟨qm_X7_textOf.1, qm_X7_textOf.2.1, Or.inl (m2 (List.mem_of_getElem? (i := 376) (by decide +kernel)) (by decide +kernel)), qm_X7_textOf.2.2.1, qm_X7_textOf.2.2.2.1, qm_X7_textOf.2.2.2.2.1, qm_X7_textOf.2.2.2.2.2.1, qm_X7_textOf.2.2.2.2.2.2.1, qm_X7_textOf.2.2.2.2.2.2.2⟩
theorem v_X7_93 : CV RX7 93 4 yX4_hasRoom cX4_hasRoom 1 (some .boolean) 0 := ⟨qm_X4_hasRoom.1, qm_X4_hasRoom.2.1, Or.inl (m2 (List.mem_of_getElem? (i := 380) (by decide +kernel)) (by decide +kernel)), qm_X4_hasRoom.2.2.1, qm_X4_hasRoom.2.2.2.1, qm_X4_hasRoom.2.2.2.2.1, qm_X4_hasRoom.2.2.2.2.2.1, qm_X4_hasRoom.2.2.2.2.2.2.1, qm_X4_hasRoom.2.2.2.2.2.2.2⟩
theorem v_X7_97 : CV RX7 97 4 yX4_add cX4_add 2 none 1 := ⟨qm_X4_add.1, qm_X4_add.2.1, Or.inl (m2 (List.mem_of_getElem? (i := 384) (by decide +kernel)) (by decide +kernel)), qm_X4_add.2.2.1, qm_X4_add.2.2.2.1, qm_X4_add.2.2.2.2.1, qm_X4_add.2.2.2.2.2.1, qm_X4_add.2.2.2.2.2.2.1, qm_X4_add.2.2.2.2.2.2.2⟩
theorem v_X8_101 : CV RX8 101 8 yX8_finds cX8_finds 2 (some .int) 1 := ⟨qm_X8_finds.1, qm_X8_finds.2.1, Or.inl (m2 (List.mem_of_getElem? (i := 956) (by decide +kernel)) (by decide +kernel)), qm_X8_finds.2.2.1, qm_X8_finds.2.2.2.1, qm_X8_finds.2.2.2.2.1, qm_X8_finds.2.2.2.2.2.1, qm_X8_finds.2.2.2.2.2.2.1, qm_X8_finds.2.2.2.2.2.2.2⟩
theorem v_X8_105 : CV RX8 105 8 yX8_lacks cX8_lacks 4 (some .int) 3 := ⟨qm_X8_lacks.1, qm_X8_lacks.2.1, Or.inl (m2 (List.mem_of_getElem? (i := 968) (by decide +kernel)) (by decide +kernel)), qm_X8_lacks.2.2.1, qm_X8_lacks.2.2.2.1, qm_X8_lacks.2.2.2.2.1, qm_X8_lacks.2.2.2.2.2.1, qm_X8_lacks.2.2.2.2.2.2.1, qm_X8_lacks.2.2.2.2.2.2.2⟩
theorem v_X8_136 : CV RX8 136 8 yX8_plain cX8_plain 2 none 0 := ⟨qm_X8_plain.1, qm_X8_plain.2.1, Or.inl (m2 (List.mem_of_getElem? (i := 1023) (by decide +kernel)) (by decide +kernel)), qm_X8_plain.2.2.1, qm_X8_plain.2.2.2.1, qm_X8_plain.2.2.2.2.1, qm_X8_plain.2.2.2.2.2.1, qm_X8_plain.2.2.2.2.2.2.1, qm_X8_plain.2.2.2.2.2.2.2⟩
theorem v_X8_139 : CV RX8 139 8 yX8_readsWalkers cX8_readsWalkers 5 (some .int) 0 := ⟨qm_X8_readsWalkers.1, qm_X8_readsWalkers.2.1, Or.inl (m2 (List.mem_of_getElem? (i := 1008) (by decide +kernel)) (by decide +kernel)), qm_X8_readsWalkers.2.2.1, qm_X8_readsWalkers.2.2.2.1, qm_X8_readsWalkers.2.2.2.2.1, qm_X8_readsWalkers.2.2.2.2.2.1, qm_X8_readsWalkers.2.2.2.2.2.2.1, qm_X8_readsWalkers.2.2.2.2.2.2.2⟩
theorem v_X8_143 : CV RX8 143 8 yX8_readsRoutine cX8_readsRoutine 4 (some .int) 0 := ⟨qm_X8_readsRoutine.1, qm_X8_readsRoutine.2.1, Or.inl (m2 (List.mem_of_getElem? (i := 1019) (by decide +kernel)) (by decide +kernel)), qm_X8_readsRoutine.2.2.1, qm_X8_readsRoutine.2.2.2.1, qm_X8_readsRoutine.2.2.2.2.1, qm_X8_readsRoutine.2.2.2.2.2.1, qm_X8_readsRoutine.2.2.2.2.2.2.1, qm_X8_readsRoutine.2.2.2.2.2.2.2⟩
theorem v_X8_146 : CV RX8 146 8 yX8_readsText cX8_readsText 2 (some .int) 1 := ⟨qm_X8_readsText.1, qm_X8_readsText.2.1, Or.inl (m2 (List.mem_of_getElem? (i := 1004) (by decide +kernel)) (by decide +kernel)), qm_X8_readsText.2.2.1, qm_X8_readsText.2.2.2.1, qm_X8_readsText.2.2.2.2.1, qm_X8_readsText.2.2.2.2.2.1, qm_X8_readsText.2.2.2.2.2.2.1, qm_X8_readsText.2.2.2.2.2.2.2⟩
theorem v_X8_151 : CV RX8 151 8 yX8_isWalker cX8_isWalker 2 (some .boolean) 1 := ⟨qm_X8_isWalker.1, qm_X8_isWalker.2.1, Or.inl (m2 (List.mem_of_getElem? (i := 1031) (by decide +kernel)) (by decide +kernel)), qm_X8_isWalker.2.2.1, qm_X8_isWalker.2.2.2.1, qm_X8_isWalker.2.2.2.2.1, qm_X8_isWalker.2.2.2.2.2.1, qm_X8_isWalker.2.2.2.2.2.2.1, qm_X8_isWalker.2.2.2.2.2.2.2⟩
theorem v_X8_172 : CV RX8 172 8 yX8_event cX8_event 4 (some .int) 3 := ⟨qm_X8_event.1, qm_X8_event.2.1, Or.inl (m2 (List.mem_of_getElem? (i := 1066) (by decide +kernel)) (by decide +kernel)), qm_X8_event.2.2.1, qm_X8_event.2.2.2.1, qm_X8_event.2.2.2.2.1, qm_X8_event.2.2.2.2.2.1, qm_X8_event.2.2.2.2.2.2.1, qm_X8_event.2.2.2.2.2.2.2⟩
theorem v_X8_184 : CV RX8 184 8 yX8_leans cX8_leans 3 none 1 := ⟨qm_X8_leans.1, qm_X8_leans.2.1, Or.inl (m2 (List.mem_of_getElem? (i := 1090) (by decide +kernel)) (by decide +kernel)), qm_X8_leans.2.2.1, qm_X8_leans.2.2.2.1, qm_X8_leans.2.2.2.2.1, qm_X8_leans.2.2.2.2.2.1, qm_X8_leans.2.2.2.2.2.2.1, qm_X8_leans.2.2.2.2.2.2.2⟩
theorem v_X8_188 : CV RX8 188 8 yX8_whoAt cX8_whoAt 4 (some .int) 1 := ⟨qm_X8_whoAt.1, qm_X8_whoAt.2.1, Or.inl (m2 (List.mem_of_getElem? (i := 1106) (by decide +kernel)) (by decide +kernel)), qm_X8_whoAt.2.2.1, qm_X8_whoAt.2.2.2.1, qm_X8_whoAt.2.2.2.2.1, qm_X8_whoAt.2.2.2.2.2.1, qm_X8_whoAt.2.2.2.2.2.2.1, qm_X8_whoAt.2.2.2.2.2.2.2⟩
theorem v_X8_194 : CV RX8 194 8 yX8_goes cX8_goes 6 none 2 := ⟨qm_X8_goes.1, qm_X8_goes.2.1, Or.inl (m2 (List.mem_of_getElem? (i := 1102) (by decide +kernel)) (by decide +kernel)), qm_X8_goes.2.2.1, qm_X8_goes.2.2.2.1, qm_X8_goes.2.2.2.2.1, qm_X8_goes.2.2.2.2.2.1, qm_X8_goes.2.2.2.2.2.2.1, qm_X8_goes.2.2.2.2.2.2.2⟩
theorem v_X8_198 : CV RX8 198 8 yX8_acting cX8_acting 4 none 2 := ⟨qm_X8_acting.1, qm_X8_acting.2.1, Or.inl (m2 (List.mem_of_getElem? (i := 1098) (by decide +kernel)) (by decide +kernel)), qm_X8_acting.2.2.1, qm_X8_acting.2.2.2.1, qm_X8_acting.2.2.2.2.1, qm_X8_acting.2.2.2.2.2.1, qm_X8_acting.2.2.2.2.2.2.1, qm_X8_acting.2.2.2.2.2.2.2⟩
theorem v_X8_204 : CV RX8 204 8 yX8_happens cX8_happens 4 none 1 := ⟨qm_X8_happens.1, qm_X8_happens.2.1, Or.inl (m2 (List.mem_of_getElem? (i := 1083) (by decide +kernel)) (by decide +kernel)), qm_X8_happens.2.2.1, qm_X8_happens.2.2.2.1, qm_X8_happens.2.2.2.2.1, qm_X8_happens.2.2.2.2.2.1, qm_X8_happens.2.2.2.2.2.2.1, qm_X8_happens.2.2.2.2.2.2.2⟩
theorem v_X8_207 : CV RX8 207 8 yX8_moves cX8_moves 4 none 2 := ⟨qm_X8_moves.1, qm_X8_moves.2.1, Or.inl (m2 (List.mem_of_getElem? (i := 1094) (by decide +kernel)) (by decide +kernel)), qm_X8_moves.2.2.1, qm_X8_moves.2.2.2.1, qm_X8_moves.2.2.2.2.1, qm_X8_moves.2.2.2.2.2.1, qm_X8_moves.2.2.2.2.2.2.1, qm_X8_moves.2.2.2.2.2.2.2⟩
theorem v_X8_213 : CV RX8 213 8 yX8_passes cX8_passes 7 none 2 := ⟨qm_X8_passes.1, qm_X8_passes.2.1, Or.inl (m2 (List.mem_of_getElem? (i := 1079) (by decide +kernel)) (by decide +kernel)), qm_X8_passes.2.2.1, qm_X8_passes.2.2.2.1, qm_X8_passes.2.2.2.2.1, qm_X8_passes.2.2.2.2.2.1, qm_X8_passes.2.2.2.2.2.2.1, qm_X8_passes.2.2.2.2.2.2.2⟩
theorem v_X8_217 : CV RX8 217 8 yX8_lives cX8_lives 4 none 0 := ⟨qm_X8_lives.1, qm_X8_lives.2.1, Or.inl (m2 (List.mem_of_getElem? (i := 1075) (by decide +kernel)) (by decide +kernel)), qm_X8_lives.2.2.1, qm_X8_lives.2.2.2.1, qm_X8_lives.2.2.2.2.1, qm_X8_lives.2.2.2.2.2.1, qm_X8_lives.2.2.2.2.2.2.1, qm_X8_lives.2.2.2.2.2.2.2⟩
theorem v_X8_220 : CV RX8 220 8 yX8_find cX8_find 1 none 0 := ⟨qm_X8_find.1, qm_X8_find.2.1, Or.inl (m2 (List.mem_of_getElem? (i := 1071) (by decide +kernel)) (by decide +kernel)), qm_X8_find.2.2.1, qm_X8_find.2.2.2.1, qm_X8_find.2.2.2.2.1, qm_X8_find.2.2.2.2.2.1, qm_X8_find.2.2.2.2.2.2.1, qm_X8_find.2.2.2.2.2.2.2⟩
theorem v_X8_223 : CV RX8 223 8 yX8_seesBy cX8_seesBy 5 (some .int) 2 := ⟨qm_X8_seesBy.1, qm_X8_seesBy.2.1, Or.inl (m2 (List.mem_of_getElem? (i := 1124) (by decide +kernel)) (by decide +kernel)), qm_X8_seesBy.2.2.1, qm_X8_seesBy.2.2.2.1, qm_X8_seesBy.2.2.2.2.1, qm_X8_seesBy.2.2.2.2.2.1, qm_X8_seesBy.2.2.2.2.2.2.1, qm_X8_seesBy.2.2.2.2.2.2.2⟩
theorem v_X8_226 : CV RX8 226 8 yX8_endsBy cX8_endsBy 3 (some .int) 2 := ⟨qm_X8_endsBy.1, qm_X8_endsBy.2.1, Or.inl (m2 (List.mem_of_getElem? (i := 1136) (by decide +kernel)) (by decide +kernel)), qm_X8_endsBy.2.2.1, qm_X8_endsBy.2.2.2.1, qm_X8_endsBy.2.2.2.2.1, qm_X8_endsBy.2.2.2.2.2.1, qm_X8_endsBy.2.2.2.2.2.2.1, qm_X8_endsBy.2.2.2.2.2.2.2⟩
theorem v_X8_229 : CV RX8 229 8 yX8_many cX8_many 4 (some .int) 1 := ⟨qm_X8_many.1, qm_X8_many.2.1, Or.inl (m2 (List.mem_of_getElem? (i := 1148) (by decide +kernel)) (by decide +kernel)), qm_X8_many.2.2.1, qm_X8_many.2.2.2.1, qm_X8_many.2.2.2.2.1, qm_X8_many.2.2.2.2.2.1, qm_X8_many.2.2.2.2.2.2.1, qm_X8_many.2.2.2.2.2.2.2⟩
theorem v_X8_232 : CV RX8 232 8 yX8_sumBy cX8_sumBy 2 (some .int) 1 := ⟨qm_X8_sumBy.1, qm_X8_sumBy.2.1, Or.inl (m2 (List.mem_of_getElem? (i := 1144) (by decide +kernel)) (by decide +kernel)), qm_X8_sumBy.2.2.1, qm_X8_sumBy.2.2.2.1, qm_X8_sumBy.2.2.2.2.1, qm_X8_sumBy.2.2.2.2.2.1, qm_X8_sumBy.2.2.2.2.2.2.1, qm_X8_sumBy.2.2.2.2.2.2.2⟩
theorem v_X8_235 : CV RX8 235 8 yX8_firstNow cX8_firstNow 5 (some .int) 0 := ⟨qm_X8_firstNow.1, qm_X8_firstNow.2.1, Or.inl (m2 (List.mem_of_getElem? (i := 1160) (by decide +kernel)) (by decide +kernel)), qm_X8_firstNow.2.2.1, qm_X8_firstNow.2.2.2.1, qm_X8_firstNow.2.2.2.2.1, qm_X8_firstNow.2.2.2.2.2.1, qm_X8_firstNow.2.2.2.2.2.2.1, qm_X8_firstNow.2.2.2.2.2.2.2⟩
theorem v_X8_238 : CV RX8 238 8 yX8_worstNow cX8_worstNow 4 (some .int) 0 := ⟨qm_X8_worstNow.1, qm_X8_worstNow.2.1, Or.inl (m2 (List.mem_of_getElem? (i := 1164) (by decide +kernel)) (by decide +kernel)), qm_X8_worstNow.2.2.1, qm_X8_worstNow.2.2.2.1, qm_X8_worstNow.2.2.2.2.1, qm_X8_worstNow.2.2.2.2.2.1, qm_X8_worstNow.2.2.2.2.2.2.1, qm_X8_worstNow.2.2.2.2.2.2.2⟩
theorem v_X8_241 : CV RX8 241 8 yX8_whoBy cX8_whoBy 2 (some .int) 1 := ⟨qm_X8_whoBy.1, qm_X8_whoBy.2.1, Or.inl (m2 (List.mem_of_getElem? (i := 1156) (by decide +kernel)) (by decide +kernel)), qm_X8_whoBy.2.2.1, qm_X8_whoBy.2.2.2.1, qm_X8_whoBy.2.2.2.2.1, qm_X8_whoBy.2.2.2.2.2.1, qm_X8_whoBy.2.2.2.2.2.2.1, qm_X8_whoBy.2.2.2.2.2.2.2⟩
theorem v_X8_244 : CV RX8 244 8 yX8_bareNow cX8_bareNow 5 (some .int) 0 := ⟨qm_X8_bareNow.1, qm_X8_bareNow.2.1, Or.inl (m2 (List.mem_of_getElem? (i := 1172) (by decide +kernel)) (by decide +kernel)), qm_X8_bareNow.2.2.1, qm_X8_bareNow.2.2.2.1, qm_X8_bareNow.2.2.2.2.1, qm_X8_bareNow.2.2.2.2.2.1, qm_X8_bareNow.2.2.2.2.2.2.1, qm_X8_bareNow.2.2.2.2.2.2.2⟩
theorem v_X8_247 : CV RX8 247 8 yX8_walkerBetter cX8_walkerBetter 9 (some .int) 3 := ⟨qm_X8_walkerBetter.1, qm_X8_walkerBetter.2.1, Or.inl (m2 (List.mem_of_getElem? (i := 1180) (by decide +kernel)) (by decide +kernel)), qm_X8_walkerBetter.2.2.1, qm_X8_walkerBetter.2.2.2.1, qm_X8_walkerBetter.2.2.2.2.1, qm_X8_walkerBetter.2.2.2.2.2.1, qm_X8_walkerBetter.2.2.2.2.2.2.1, qm_X8_walkerBetter.2.2.2.2.2.2.2⟩
theorem v_X8_250 : CV RX8 250 8 yX8_actOf cX8_actOf 8 (some .int) 2 := ⟨qm_X8_actOf.1, qm_X8_actOf.2.1, Or.inl (m2 (List.mem_of_getElem? (i := 1192) (by decide +kernel)) (by decide +kernel)), qm_X8_actOf.2.2.1, qm_X8_actOf.2.2.2.1, qm_X8_actOf.2.2.2.2.1, qm_X8_actOf.2.2.2.2.2.1, qm_X8_actOf.2.2.2.2.2.2.1, qm_X8_actOf.2.2.2.2.2.2.2⟩
theorem v_X8_253 : CV RX8 253 8 yX8_isSpared cX8_isSpared 2 (some .boolean) 1 := ⟨qm_X8_isSpared.1, qm_X8_isSpared.2.1, Or.inl (m2 (List.mem_of_getElem? (i := 1205) (by decide +kernel)) (by decide +kernel)), qm_X8_isSpared.2.2.1, qm_X8_isSpared.2.2.2.1, qm_X8_isSpared.2.2.2.2.1, qm_X8_isSpared.2.2.2.2.2.1, qm_X8_isSpared.2.2.2.2.2.2.1, qm_X8_isSpared.2.2.2.2.2.2.2⟩
theorem v_X8_258 : CV RX8 258 8 yX8_spareBy cX8_spareBy 4 (some .int) 1 := ⟨qm_X8_spareBy.1, qm_X8_spareBy.2.1, Or.inl (m2 (List.mem_of_getElem? (i := 1201) (by decide +kernel)) (by decide +kernel)), qm_X8_spareBy.2.2.1, qm_X8_spareBy.2.2.2.1, qm_X8_spareBy.2.2.2.2.1, qm_X8_spareBy.2.2.2.2.2.1, qm_X8_spareBy.2.2.2.2.2.2.1, qm_X8_spareBy.2.2.2.2.2.2.2⟩
theorem v_X8_264 : CV RX8 264 8 yX8_isSeen cX8_isSeen 4 (some .boolean) 0 := ⟨qm_X8_isSeen.1, qm_X8_isSeen.2.1, Or.inl (m2 (List.mem_of_getElem? (i := 1225) (by decide +kernel)) (by decide +kernel)), qm_X8_isSeen.2.2.1, qm_X8_isSeen.2.2.2.1, qm_X8_isSeen.2.2.2.2.1, qm_X8_isSeen.2.2.2.2.2.1, qm_X8_isSeen.2.2.2.2.2.2.1, qm_X8_isSeen.2.2.2.2.2.2.2⟩
theorem v_X8_268 : CV RX8 268 8 yX8_neverNow cX8_neverNow 3 (some .int) 0 := ⟨qm_X8_neverNow.1, qm_X8_neverNow.2.1, Or.inl (m2 (List.mem_of_getElem? (i := 1221) (by decide +kernel)) (by decide +kernel)), qm_X8_neverNow.2.2.1, qm_X8_neverNow.2.2.2.1, qm_X8_neverNow.2.2.2.2.1, qm_X8_neverNow.2.2.2.2.2.1, qm_X8_neverNow.2.2.2.2.2.2.1, qm_X8_neverNow.2.2.2.2.2.2.2⟩
theorem v_X8_273 : CV RX8 273 8 yX8_rowOf cX8_rowOf 5 (some .long) 1 := ⟨qm_X8_rowOf.1, qm_X8_rowOf.2.1, Or.inl (m2 (List.mem_of_getElem? (i := 1241) (by decide +kernel)) (by decide +kernel)), qm_X8_rowOf.2.2.1, qm_X8_rowOf.2.2.2.1, qm_X8_rowOf.2.2.2.2.1, qm_X8_rowOf.2.2.2.2.2.1, qm_X8_rowOf.2.2.2.2.2.2.1, qm_X8_rowOf.2.2.2.2.2.2.2⟩
theorem v_X8_277 : CV RX8 277 8 yX8_polesOf cX8_polesOf 7 (some .int) 1 := ⟨qm_X8_polesOf.1, qm_X8_polesOf.2.1, Or.inl (m2 (List.mem_of_getElem? (i := 1237) (by decide +kernel)) (by decide +kernel)), qm_X8_polesOf.2.2.1, qm_X8_polesOf.2.2.2.1, qm_X8_polesOf.2.2.2.2.1, qm_X8_polesOf.2.2.2.2.2.1, qm_X8_polesOf.2.2.2.2.2.2.1, qm_X8_polesOf.2.2.2.2.2.2.2⟩
theorem v_X8_280 : CV RX8 280 8 yX8_sortOf cX8_sortOf 6 (some .int) 1 := ⟨qm_X8_sortOf.1, qm_X8_sortOf.2.1, Or.inl (m2 (List.mem_of_getElem? (i := 1246) (by decide +kernel)) (by decide +kernel)), qm_X8_sortOf.2.2.1, qm_X8_sortOf.2.2.2.1, qm_X8_sortOf.2.2.2.2.1, qm_X8_sortOf.2.2.2.2.2.1, qm_X8_sortOf.2.2.2.2.2.2.1, qm_X8_sortOf.2.2.2.2.2.2.2⟩
theorem v_X8_283 : CV RX8 283 8 yX8_wasOf cX8_wasOf 3 (some .int) 2 := ⟨qm_X8_wasOf.1, qm_X8_wasOf.2.1, Or.inl (m2 (List.mem_of_getElem? (i := 1233) (by decide +kernel)) (by decide +kernel)), qm_X8_wasOf.2.2.1, qm_X8_wasOf.2.2.2.1, qm_X8_wasOf.2.2.2.2.1, qm_X8_wasOf.2.2.2.2.2.1, qm_X8_wasOf.2.2.2.2.2.2.1, qm_X8_wasOf.2.2.2.2.2.2.2⟩
theorem v_X8_286 : CV RX8 286 8 yX8_alike cX8_alike 7 (some .int) 2 := ⟨qm_X8_alike.1, qm_X8_alike.2.1, Or.inl (m2 (List.mem_of_getElem? (i := 1258) (by decide +kernel)) (by decide +kernel)), qm_X8_alike.2.2.1, qm_X8_alike.2.2.2.1, qm_X8_alike.2.2.2.2.1, qm_X8_alike.2.2.2.2.2.1, qm_X8_alike.2.2.2.2.2.2.1, qm_X8_alike.2.2.2.2.2.2.2⟩
theorem v_X8_289 : CV RX8 289 8 yX8_askOf cX8_askOf 5 (some .int) 1 := ⟨qm_X8_askOf.1, qm_X8_askOf.2.1, Or.inl (m2 (List.mem_of_getElem? (i := 1254) (by decide +kernel)) (by decide +kernel)), qm_X8_askOf.2.2.1, qm_X8_askOf.2.2.2.1, qm_X8_askOf.2.2.2.2.1, qm_X8_askOf.2.2.2.2.2.1, qm_X8_askOf.2.2.2.2.2.2.1, qm_X8_askOf.2.2.2.2.2.2.2⟩
theorem v_X8_298 : CV RX8 298 8 yX8_chanceOf cX8_chanceOf 10 (some .long) 3 := ⟨qm_X8_chanceOf.1, qm_X8_chanceOf.2.1, Or.inl (m2 (List.mem_of_getElem? (i := 1267) (by decide +kernel)) (by decide +kernel)), qm_X8_chanceOf.2.2.1, qm_X8_chanceOf.2.2.2.1, qm_X8_chanceOf.2.2.2.2.1, qm_X8_chanceOf.2.2.2.2.2.1, qm_X8_chanceOf.2.2.2.2.2.2.1, qm_X8_chanceOf.2.2.2.2.2.2.2⟩
theorem v_X8_309 : CV RX8 309 8 yX8_lot cX8_lot 2 (some .int) 1 := ⟨qm_X8_lot.1, qm_X8_lot.2.1, Or.inl (m2 (List.mem_of_getElem? (i := 1287) (by decide +kernel)) (by decide +kernel)), qm_X8_lot.2.2.1, qm_X8_lot.2.2.2.1, qm_X8_lot.2.2.2.2.1, qm_X8_lot.2.2.2.2.2.1, qm_X8_lot.2.2.2.2.2.2.1, qm_X8_lot.2.2.2.2.2.2.2⟩
theorem v_X8_314 : CV RX8 314 8 yX8_showsOf cX8_showsOf 5 (some .int) 3 := ⟨qm_X8_showsOf.1, qm_X8_showsOf.2.1, Or.inl (m2 (List.mem_of_getElem? (i := 1283) (by decide +kernel)) (by decide +kernel)), qm_X8_showsOf.2.2.1, qm_X8_showsOf.2.2.2.1, qm_X8_showsOf.2.2.2.2.1, qm_X8_showsOf.2.2.2.2.2.1, qm_X8_showsOf.2.2.2.2.2.2.1, qm_X8_showsOf.2.2.2.2.2.2.2⟩
theorem v_X8_322 : CV RX8 322 8 yX8_tellsBeat cX8_tellsBeat 7 (some .long) 3 := ⟨qm_X8_tellsBeat.1, qm_X8_tellsBeat.2.1, Or.inl (m2 (List.mem_of_getElem? (i := 1314) (by decide +kernel)) (by decide +kernel)), qm_X8_tellsBeat.2.2.1, qm_X8_tellsBeat.2.2.2.1, qm_X8_tellsBeat.2.2.2.2.1, qm_X8_tellsBeat.2.2.2.2.2.1, qm_X8_tellsBeat.2.2.2.2.2.2.1, qm_X8_tellsBeat.2.2.2.2.2.2.2⟩
theorem v_X8_328 : CV RX8 328 8 yX8_count cX8_count 2 (some .int) 1 := ⟨qm_X8_count.1, qm_X8_count.2.1, Or.inl (m2 (List.mem_of_getElem? (i := 1309) (by decide +kernel)) (by decide +kernel)), qm_X8_count.2.2.1, qm_X8_count.2.2.2.1, qm_X8_count.2.2.2.2.1, qm_X8_count.2.2.2.2.2.1, qm_X8_count.2.2.2.2.2.2.1, qm_X8_count.2.2.2.2.2.2.2⟩
theorem v_X8_331 : CV RX8 331 8 yX8_tellsWalker cX8_tellsWalker 7 (some .long) 2 := ⟨qm_X8_tellsWalker.1, qm_X8_tellsWalker.2.1, Or.inl (m2 (List.mem_of_getElem? (i := 1310) (by decide +kernel)) (by decide +kernel)), qm_X8_tellsWalker.2.2.1, qm_X8_tellsWalker.2.2.2.1, qm_X8_tellsWalker.2.2.2.2.1, qm_X8_tellsWalker.2.2.2.2.2.1, qm_X8_tellsWalker.2.2.2.2.2.2.1, qm_X8_tellsWalker.2.2.2.2.2.2.2⟩
theorem v_L_13 : CV RL 13 7 yX7_type cX7_type 4 (some .int) 2 := ⟨qm_X7_type.1, qm_X7_type.2.1, Or.inl (m2 (List.mem_of_getElem? (i := 369) (by decide +kernel)) (by decide +kernel)), qm_X7_type.2.2.1, qm_X7_type.2.2.2.1, qm_X7_type.2.2.2.2.1, qm_X7_type.2.2.2.2.2.1, qm_X7_type.2.2.2.2.2.2.1, qm_X7_type.2.2.2.2.2.2.2⟩
theorem v_L_18 : CV RL 18 7 yX7_wipe cX7_wipe 4 (some .int) 1 := ⟨qm_X7_wipe.1, qm_X7_wipe.2.1, Or.inl (m2 (List.mem_of_getElem? (i := 432) (by decide +kernel)) (by decide +kernel)), qm_X7_wipe.2.2.1, qm_X7_wipe.2.2.2.1, qm_X7_wipe.2.2.2.2.1, qm_X7_wipe.2.2.2.2.2.1, qm_X7_wipe.2.2.2.2.2.2.1, qm_X7_wipe.2.2.2.2.2.2.2⟩
theorem v_L_23 : CV RL 23 7 yX7_undo cX7_undo 3 (some .int) 1 := ⟨qm_X7_undo.1, qm_X7_undo.2.1, Or.inl (m2 (List.mem_of_getElem? (i := 436) (by decide +kernel)) (by decide +kernel)), qm_X7_undo.2.2.1, qm_X7_undo.2.2.2.1, qm_X7_undo.2.2.2.2.1, qm_X7_undo.2.2.2.2.2.1, qm_X7_undo.2.2.2.2.2.2.1, qm_X7_undo.2.2.2.2.2.2.2⟩
theorem v_L_27 : CV RL 27 7 yX7_fault cX7_fault 2 (some .int) 1 := ⟨qm_X7_fault.1, qm_X7_fault.2.1, Or.inl (m2 (List.mem_of_getElem? (i := 440) (by decide +kernel)) (by decide +kernel)), qm_X7_fault.2.2.1, qm_X7_fault.2.2.2.1, qm_X7_fault.2.2.2.2.1, qm_X7_fault.2.2.2.2.2.1, qm_X7_fault.2.2.2.2.2.2.1, qm_X7_fault.2.2.2.2.2.2.2⟩
theorem v_L_31 : CV RL 31 7 yX7_walker cX7_walker 3 (some .int) 2 := ⟨qm_X7_walker.1, qm_X7_walker.2.1, Or.inl (m2 (List.mem_of_getElem? (i := 446) (by decide +kernel)) (by decide +kernel)), qm_X7_walker.2.2.1, qm_X7_walker.2.2.2.1, qm_X7_walker.2.2.2.2.1, qm_X7_walker.2.2.2.2.2.1, qm_X7_walker.2.2.2.2.2.2.1, qm_X7_walker.2.2.2.2.2.2.2⟩
theorem v_L_35 : CV RL 35 7 yX7_routine cX7_routine 2 (some .int) 1 := ⟨qm_X7_routine.1, qm_X7_routine.2.1, Or.inl (m2 (List.mem_of_getElem? (i := 454) (by decide +kernel)) (by decide +kernel)), qm_X7_routine.2.2.1, qm_X7_routine.2.2.2.1, qm_X7_routine.2.2.2.2.1, qm_X7_routine.2.2.2.2.2.1, qm_X7_routine.2.2.2.2.2.2.1, qm_X7_routine.2.2.2.2.2.2.2⟩
theorem v_L_39 : CV RL 39 7 yX7_wire cX7_wire 4 (some .int) 2 := ⟨qm_X7_wire.1, qm_X7_wire.2.1, Or.inl (m2 (List.mem_of_getElem? (i := 461) (by decide +kernel)) (by decide +kernel)), qm_X7_wire.2.2.1, qm_X7_wire.2.2.2.1, qm_X7_wire.2.2.2.2.1, qm_X7_wire.2.2.2.2.2.1, qm_X7_wire.2.2.2.2.2.2.1, qm_X7_wire.2.2.2.2.2.2.2⟩
theorem v_L_43 : CV RL 43 7 yX7_event cX7_event 4 (some .int) 3 := ⟨qm_X7_event.1, qm_X7_event.2.1, Or.inl (m2 (List.mem_of_getElem? (i := 465) (by decide +kernel)) (by decide +kernel)), qm_X7_event.2.2.1, qm_X7_event.2.2.2.1, qm_X7_event.2.2.2.2.1, qm_X7_event.2.2.2.2.2.1, qm_X7_event.2.2.2.2.2.2.1, qm_X7_event.2.2.2.2.2.2.2⟩
theorem v_L_48 : CV RL 48 7 yX7_back cX7_back 1 (some .int) 0 := ⟨qm_X7_back.1, qm_X7_back.2.1, Or.inl (m2 (List.mem_of_getElem? (i := 482) (by decide +kernel)) (by decide +kernel)), qm_X7_back.2.2.1, qm_X7_back.2.2.2.1, qm_X7_back.2.2.2.2.1, qm_X7_back.2.2.2.2.2.1, qm_X7_back.2.2.2.2.2.2.1, qm_X7_back.2.2.2.2.2.2.2⟩
theorem v_L_53 : CV RL 53 7 yX7_read cX7_read 8 (some .int) 1 := ⟨qm_X7_read.1, qm_X7_read.2.1, Or.inl (m2 (List.mem_of_getElem? (i := 486) (by decide +kernel)) (by decide +kernel)), qm_X7_read.2.2.1, qm_X7_read.2.2.2.1, qm_X7_read.2.2.2.2.1, qm_X7_read.2.2.2.2.2.1, qm_X7_read.2.2.2.2.2.2.1, qm_X7_read.2.2.2.2.2.2.2⟩
theorem v_L_57 : CV RL 57 7 yX7_at cX7_at 5 (some .int) 3 := ⟨qm_X7_at.1, qm_X7_at.2.1, Or.inl (m2 (List.mem_of_getElem? (i := 497) (by decide +kernel)) (by decide +kernel)), qm_X7_at.2.2.1, qm_X7_at.2.2.2.1, qm_X7_at.2.2.2.2.1, qm_X7_at.2.2.2.2.2.1, qm_X7_at.2.2.2.2.2.2.1, qm_X7_at.2.2.2.2.2.2.2⟩
theorem v_L_61 : CV RL 61 7 yX7_lean cX7_lean 3 (some .int) 2 := ⟨qm_X7_lean.1, qm_X7_lean.2.1, Or.inl (m2 (List.mem_of_getElem? (i := 580) (by decide +kernel)) (by decide +kernel)), qm_X7_lean.2.2.1, qm_X7_lean.2.2.2.1, qm_X7_lean.2.2.2.2.1, qm_X7_lean.2.2.2.2.2.1, qm_X7_lean.2.2.2.2.2.2.1, qm_X7_lean.2.2.2.2.2.2.2⟩
theorem v_L_65 : CV RL 65 7 yX7_sees cX7_sees 5 (some .int) 2 := ⟨qm_X7_sees.1, qm_X7_sees.2.1, Or.inl (m2 (List.mem_of_getElem? (i := 589) (by decide +kernel)) (by decide +kernel)), qm_X7_sees.2.2.1, qm_X7_sees.2.2.2.1, qm_X7_sees.2.2.2.2.1, qm_X7_sees.2.2.2.2.2.1, qm_X7_sees.2.2.2.2.2.2.1, qm_X7_sees.2.2.2.2.2.2.2⟩
theorem v_L_69 : CV RL 69 7 yX7_sway cX7_sway 2 (some .int) 1 := ⟨qm_X7_sway.1, qm_X7_sway.2.1, Or.inl (m2 (List.mem_of_getElem? (i := 593) (by decide +kernel)) (by decide +kernel)), qm_X7_sway.2.2.1, qm_X7_sway.2.2.2.1, qm_X7_sway.2.2.2.2.1, qm_X7_sway.2.2.2.2.2.1, qm_X7_sway.2.2.2.2.2.2.1, qm_X7_sway.2.2.2.2.2.2.2⟩
theorem v_L_73 : CV RL 73 7 yX7_ends cX7_ends 4 (some .int) 2 := ⟨qm_X7_ends.1, qm_X7_ends.2.1, Or.inl (m2 (List.mem_of_getElem? (i := 597) (by decide +kernel)) (by decide +kernel)), qm_X7_ends.2.2.1, qm_X7_ends.2.2.2.1, qm_X7_ends.2.2.2.2.1, qm_X7_ends.2.2.2.2.2.1, qm_X7_ends.2.2.2.2.2.2.1, qm_X7_ends.2.2.2.2.2.2.2⟩
theorem v_L_77 : CV RL 77 7 yX7_sum cX7_sum 3 (some .int) 1 := ⟨qm_X7_sum.1, qm_X7_sum.2.1, Or.inl (m2 (List.mem_of_getElem? (i := 601) (by decide +kernel)) (by decide +kernel)), qm_X7_sum.2.2.1, qm_X7_sum.2.2.2.1, qm_X7_sum.2.2.2.2.1, qm_X7_sum.2.2.2.2.2.1, qm_X7_sum.2.2.2.2.2.2.1, qm_X7_sum.2.2.2.2.2.2.2⟩
theorem v_L_81 : CV RL 81 7 yX7_who cX7_who 2 (some .int) 1 := ⟨qm_X7_who.1, qm_X7_who.2.1, Or.inl (m2 (List.mem_of_getElem? (i := 605) (by decide +kernel)) (by decide +kernel)), qm_X7_who.2.2.1, qm_X7_who.2.2.2.1, qm_X7_who.2.2.2.2.1, qm_X7_who.2.2.2.2.2.1, qm_X7_who.2.2.2.2.2.2.1, qm_X7_who.2.2.2.2.2.2.2⟩
theorem v_L_85 : CV RL 85 7 yX7_bare cX7_bare 6 (some .int) 0 := ⟨qm_X7_bare.1, qm_X7_bare.2.1, Or.inl (m2 (List.mem_of_getElem? (i := 617) (by decide +kernel)) (by decide +kernel)), qm_X7_bare.2.2.1, qm_X7_bare.2.2.2.1, qm_X7_bare.2.2.2.2.1, qm_X7_bare.2.2.2.2.2.1, qm_X7_bare.2.2.2.2.2.2.1, qm_X7_bare.2.2.2.2.2.2.2⟩
theorem v_L_89 : CV RL 89 7 yX7_start cX7_start 3 (some .int) 2 := ⟨qm_X7_start.1, qm_X7_start.2.1, Or.inl (m2 (List.mem_of_getElem? (i := 621) (by decide +kernel)) (by decide +kernel)), qm_X7_start.2.2.1, qm_X7_start.2.2.2.1, qm_X7_start.2.2.2.2.1, qm_X7_start.2.2.2.2.2.1, qm_X7_start.2.2.2.2.2.2.1, qm_X7_start.2.2.2.2.2.2.2⟩
theorem v_L_93 : CV RL 93 7 yX7_hold cX7_hold 3 (some .int) 2 := ⟨qm_X7_hold.1, qm_X7_hold.2.1, Or.inl (m2 (List.mem_of_getElem? (i := 629) (by decide +kernel)) (by decide +kernel)), qm_X7_hold.2.2.1, qm_X7_hold.2.2.2.1, qm_X7_hold.2.2.2.2.1, qm_X7_hold.2.2.2.2.2.1, qm_X7_hold.2.2.2.2.2.2.1, qm_X7_hold.2.2.2.2.2.2.2⟩
theorem v_L_97 : CV RL 97 7 yX7_act cX7_act 3 (some .int) 2 := ⟨qm_X7_act.1, qm_X7_act.2.1, Or.inl (m2 (List.mem_of_getElem? (i := 633) (by decide +kernel)) (by decide +kernel)), qm_X7_act.2.2.1, qm_X7_act.2.2.2.1, qm_X7_act.2.2.2.2.1, qm_X7_act.2.2.2.2.2.1, qm_X7_act.2.2.2.2.2.2.1, qm_X7_act.2.2.2.2.2.2.2⟩
theorem v_L_101 : CV RL 101 7 yX7_spare cX7_spare 3 (some .int) 1 := ⟨qm_X7_spare.1, qm_X7_spare.2.1, Or.inl (m2 (List.mem_of_getElem? (i := 637) (by decide +kernel)) (by decide +kernel)), qm_X7_spare.2.2.1, qm_X7_spare.2.2.2.1, qm_X7_spare.2.2.2.2.1, qm_X7_spare.2.2.2.2.2.1, qm_X7_spare.2.2.2.2.2.2.1, qm_X7_spare.2.2.2.2.2.2.2⟩
theorem v_L_105 : CV RL 105 7 yX7_seen cX7_seen 4 (some .int) 3 := ⟨qm_X7_seen.1, qm_X7_seen.2.1, Or.inl (m2 (List.mem_of_getElem? (i := 649) (by decide +kernel)) (by decide +kernel)), qm_X7_seen.2.2.1, qm_X7_seen.2.2.2.1, qm_X7_seen.2.2.2.2.1, qm_X7_seen.2.2.2.2.2.1, qm_X7_seen.2.2.2.2.2.2.1, qm_X7_seen.2.2.2.2.2.2.2⟩
theorem v_L_109 : CV RL 109 7 yX7_forget cX7_forget 2 (some .int) 0 := ⟨qm_X7_forget.1, qm_X7_forget.2.1, Or.inl (m2 (List.mem_of_getElem? (i := 661) (by decide +kernel)) (by decide +kernel)), qm_X7_forget.2.2.1, qm_X7_forget.2.2.2.1, qm_X7_forget.2.2.2.2.1, qm_X7_forget.2.2.2.2.2.1, qm_X7_forget.2.2.2.2.2.2.1, qm_X7_forget.2.2.2.2.2.2.2⟩
theorem v_L_113 : CV RL 113 7 yX7_never cX7_never 3 (some .int) 0 := ⟨qm_X7_never.1, qm_X7_never.2.1, Or.inl (m2 (List.mem_of_getElem? (i := 665) (by decide +kernel)) (by decide +kernel)), qm_X7_never.2.2.1, qm_X7_never.2.2.2.1, qm_X7_never.2.2.2.2.1, qm_X7_never.2.2.2.2.2.1, qm_X7_never.2.2.2.2.2.2.1, qm_X7_never.2.2.2.2.2.2.2⟩
theorem v_L_117 : CV RL 117 7 yX7_was cX7_was 3 (some .int) 2 := ⟨qm_X7_was.1, qm_X7_was.2.1, Or.inl (m2 (List.mem_of_getElem? (i := 674) (by decide +kernel)) (by decide +kernel)), qm_X7_was.2.2.1, qm_X7_was.2.2.2.1, qm_X7_was.2.2.2.2.1, qm_X7_was.2.2.2.2.2.1, qm_X7_was.2.2.2.2.2.2.1, qm_X7_was.2.2.2.2.2.2.2⟩
theorem v_L_121 : CV RL 121 7 yX7_ask cX7_ask 7 (some .int) 1 := ⟨qm_X7_ask.1, qm_X7_ask.2.1, Or.inl (m2 (List.mem_of_getElem? (i := 695) (by decide +kernel)) (by decide +kernel)), qm_X7_ask.2.2.1, qm_X7_ask.2.2.2.1, qm_X7_ask.2.2.2.2.1, qm_X7_ask.2.2.2.2.2.1, qm_X7_ask.2.2.2.2.2.2.1, qm_X7_ask.2.2.2.2.2.2.2⟩
theorem v_L_125 : CV RL 125 7 yX7_chance cX7_chance 9 (some .long) 3 := ⟨qm_X7_chance.1, qm_X7_chance.2.1, Or.inl (m2 (List.mem_of_getElem? (i := 708) (by decide +kernel)) (by decide +kernel)), qm_X7_chance.2.2.1, qm_X7_chance.2.2.2.1, qm_X7_chance.2.2.2.2.1, qm_X7_chance.2.2.2.2.2.1, qm_X7_chance.2.2.2.2.2.2.1, qm_X7_chance.2.2.2.2.2.2.2⟩
theorem v_L_130 : CV RL 130 7 yX7_shows cX7_shows 6 (some .int) 3 := ⟨qm_X7_shows.1, qm_X7_shows.2.1, Or.inl (m2 (List.mem_of_getElem? (i := 726) (by decide +kernel)) (by decide +kernel)), qm_X7_shows.2.2.1, qm_X7_shows.2.2.2.1, qm_X7_shows.2.2.2.2.1, qm_X7_shows.2.2.2.2.2.1, qm_X7_shows.2.2.2.2.2.2.1, qm_X7_shows.2.2.2.2.2.2.2⟩
theorem v_L_134 : CV RL 134 7 yX7_sheet cX7_sheet 4 (some .int) 3 := ⟨qm_X7_sheet.1, qm_X7_sheet.2.1, Or.inl (m2 (List.mem_of_getElem? (i := 731) (by decide +kernel)) (by decide +kernel)), qm_X7_sheet.2.2.1, qm_X7_sheet.2.2.2.1, qm_X7_sheet.2.2.2.2.1, qm_X7_sheet.2.2.2.2.2.1, qm_X7_sheet.2.2.2.2.2.2.1, qm_X7_sheet.2.2.2.2.2.2.2⟩
theorem v_L_138 : CV RL 138 7 yX7_lose cX7_lose 3 (some .int) 1 := ⟨qm_X7_lose.1, qm_X7_lose.2.1, Or.inl (m2 (List.mem_of_getElem? (i := 745) (by decide +kernel)) (by decide +kernel)), qm_X7_lose.2.2.1, qm_X7_lose.2.2.2.1, qm_X7_lose.2.2.2.2.1, qm_X7_lose.2.2.2.2.2.1, qm_X7_lose.2.2.2.2.2.2.1, qm_X7_lose.2.2.2.2.2.2.2⟩
theorem v_L_142 : CV RL 142 7 yX7_lay cX7_lay 6 (some .int) 4 := ⟨qm_X7_lay.1, qm_X7_lay.2.1, Or.inl (m2 (List.mem_of_getElem? (i := 749) (by decide +kernel)) (by decide +kernel)), qm_X7_lay.2.2.1, qm_X7_lay.2.2.2.1, qm_X7_lay.2.2.2.2.1, qm_X7_lay.2.2.2.2.2.1, qm_X7_lay.2.2.2.2.2.2.1, qm_X7_lay.2.2.2.2.2.2.2⟩
theorem v_L_147 : CV RL 147 7 yX7_get cX7_get 5 (some .int) 3 := ⟨qm_X7_get.1, qm_X7_get.2.1, Or.inl (m2 (List.mem_of_getElem? (i := 764) (by decide +kernel)) (by decide +kernel)), qm_X7_get.2.2.1, qm_X7_get.2.2.2.1, qm_X7_get.2.2.2.2.1, qm_X7_get.2.2.2.2.2.1, qm_X7_get.2.2.2.2.2.2.1, qm_X7_get.2.2.2.2.2.2.2⟩
theorem v_L_151 : CV RL 151 7 yX7_copy cX7_copy 8 (some .int) 5 := ⟨qm_X7_copy.1, qm_X7_copy.2.1, Or.inl (m2 (List.mem_of_getElem? (i := 768) (by decide +kernel)) (by decide +kernel)), qm_X7_copy.2.2.1, qm_X7_copy.2.2.2.1, qm_X7_copy.2.2.2.2.1, qm_X7_copy.2.2.2.2.2.1, qm_X7_copy.2.2.2.2.2.2.1, qm_X7_copy.2.2.2.2.2.2.2⟩
theorem v_L_156 : CV RL 156 7 yX7_write cX7_write 7 (some .int) 2 := ⟨qm_X7_write.1, qm_X7_write.2.1, Or.inl (m2 (List.mem_of_getElem? (i := 779) (by decide +kernel)) (by decide +kernel)), qm_X7_write.2.2.1, qm_X7_write.2.2.2.1, qm_X7_write.2.2.2.2.1, qm_X7_write.2.2.2.2.2.1, qm_X7_write.2.2.2.2.2.2.1, qm_X7_write.2.2.2.2.2.2.2⟩
theorem v_L_160 : CV RL 160 7 yX7_count cX7_count 2 (some .int) 1 := ⟨qm_X7_count.1, qm_X7_count.2.1, Or.inl (m2 (List.mem_of_getElem? (i := 784) (by decide +kernel)) (by decide +kernel)), qm_X7_count.2.2.1, qm_X7_count.2.2.2.1, qm_X7_count.2.2.2.2.1, qm_X7_count.2.2.2.2.2.1, qm_X7_count.2.2.2.2.2.2.1, qm_X7_count.2.2.2.2.2.2.2⟩
theorem v_L_164 : CV RL 164 7 yX7_digest cX7_digest 4 (some .long) 0 := ⟨qm_X7_digest.1, qm_X7_digest.2.1, Or.inl (m2 (List.mem_of_getElem? (i := 788) (by decide +kernel)) (by decide +kernel)), qm_X7_digest.2.2.1, qm_X7_digest.2.2.2.1, qm_X7_digest.2.2.2.2.1, qm_X7_digest.2.2.2.2.2.1, qm_X7_digest.2.2.2.2.2.2.1, qm_X7_digest.2.2.2.2.2.2.2⟩
theorem v_L_137 : CV RL 137 8 yX8_sheet cX8_sheet 5 (some .int) 3 := ⟨qm_X8_sheet.1, qm_X8_sheet.2.1, Or.inl (m2 (List.mem_of_getElem? (i := 944) (by decide +kernel)) (by decide +kernel)), qm_X8_sheet.2.2.1, qm_X8_sheet.2.2.2.1, qm_X8_sheet.2.2.2.2.1, qm_X8_sheet.2.2.2.2.2.1, qm_X8_sheet.2.2.2.2.2.2.1, qm_X8_sheet.2.2.2.2.2.2.2⟩
theorem v_L_141 : CV RL 141 8 yX8_lose cX8_lose 2 (some .int) 1 := ⟨qm_X8_lose.1, qm_X8_lose.2.1, Or.inl (m2 (List.mem_of_getElem? (i := 960) (by decide +kernel)) (by decide +kernel)), qm_X8_lose.2.2.1, qm_X8_lose.2.2.2.1, qm_X8_lose.2.2.2.2.1, qm_X8_lose.2.2.2.2.2.1, qm_X8_lose.2.2.2.2.2.2.1, qm_X8_lose.2.2.2.2.2.2.2⟩
theorem v_L_146 : CV RL 146 8 yX8_lay cX8_lay 6 (some .int) 4 := ⟨qm_X8_lay.1, qm_X8_lay.2.1, Or.inl (m2 (List.mem_of_getElem? (i := 964) (by decide +kernel)) (by decide +kernel)), qm_X8_lay.2.2.1, qm_X8_lay.2.2.2.1, qm_X8_lay.2.2.2.2.1, qm_X8_lay.2.2.2.2.2.1, qm_X8_lay.2.2.2.2.2.2.1, qm_X8_lay.2.2.2.2.2.2.2⟩
theorem v_L_150 : CV RL 150 8 yX8_get cX8_get 4 (some .int) 3 := ⟨qm_X8_get.1, qm_X8_get.2.1, Or.inl (m2 (List.mem_of_getElem? (i := 975) (by decide +kernel)) (by decide +kernel)), qm_X8_get.2.2.1, qm_X8_get.2.2.2.1, qm_X8_get.2.2.2.2.1, qm_X8_get.2.2.2.2.2.1, qm_X8_get.2.2.2.2.2.2.1, qm_X8_get.2.2.2.2.2.2.2⟩
theorem v_L_155 : CV RL 155 8 yX8_copy cX8_copy 7 (some .int) 5 := ⟨qm_X8_copy.1, qm_X8_copy.2.1, Or.inl (m2 (List.mem_of_getElem? (i := 980) (by decide +kernel)) (by decide +kernel)), qm_X8_copy.2.2.1, qm_X8_copy.2.2.2.1, qm_X8_copy.2.2.2.2.1, qm_X8_copy.2.2.2.2.2.1, qm_X8_copy.2.2.2.2.2.2.1, qm_X8_copy.2.2.2.2.2.2.2⟩
theorem v_L_17 : CV RL 17 8 yX8_type cX8_type 3 (some .int) 2 := ⟨qm_X8_type.1, qm_X8_type.2.1, Or.inl (m2 (List.mem_of_getElem? (i := 984) (by decide +kernel)) (by decide +kernel)), qm_X8_type.2.2.1, qm_X8_type.2.2.2.1, qm_X8_type.2.2.2.2.1, qm_X8_type.2.2.2.2.2.1, qm_X8_type.2.2.2.2.2.2.1, qm_X8_type.2.2.2.2.2.2.2⟩
theorem v_L_22 : CV RL 22 8 yX8_wipe cX8_wipe 3 (some .int) 1 := ⟨qm_X8_wipe.1, qm_X8_wipe.2.1, Or.inl (m2 (List.mem_of_getElem? (i := 992) (by decide +kernel)) (by decide +kernel)), qm_X8_wipe.2.2.1, qm_X8_wipe.2.2.2.1, qm_X8_wipe.2.2.2.2.1, qm_X8_wipe.2.2.2.2.2.1, qm_X8_wipe.2.2.2.2.2.2.1, qm_X8_wipe.2.2.2.2.2.2.2⟩
theorem v_L_26 : CV RL 26 8 yX8_undo cX8_undo 2 (some .int) 1 := ⟨qm_X8_undo.1, qm_X8_undo.2.1, Or.inl (m2 (List.mem_of_getElem? (i := 996) (by decide +kernel)) (by decide +kernel)), qm_X8_undo.2.2.1, qm_X8_undo.2.2.2.1, qm_X8_undo.2.2.2.2.1, qm_X8_undo.2.2.2.2.2.1, qm_X8_undo.2.2.2.2.2.2.1, qm_X8_undo.2.2.2.2.2.2.2⟩
theorem v_L_30 : CV RL 30 8 yX8_fault cX8_fault 2 (some .int) 1 := ⟨qm_X8_fault.1, qm_X8_fault.2.1, Or.inl (m2 (List.mem_of_getElem? (i := 1000) (by decide +kernel)) (by decide +kernel)), qm_X8_fault.2.2.1, qm_X8_fault.2.2.2.1, qm_X8_fault.2.2.2.2.1, qm_X8_fault.2.2.2.2.2.1, qm_X8_fault.2.2.2.2.2.2.1, qm_X8_fault.2.2.2.2.2.2.2⟩
theorem v_L_34 : CV RL 34 8 yX8_walker cX8_walker 3 (some .int) 2 := ⟨qm_X8_walker.1, qm_X8_walker.2.1, Or.inl (m2 (List.mem_of_getElem? (i := 1027) (by decide +kernel)) (by decide +kernel)), qm_X8_walker.2.2.1, qm_X8_walker.2.2.2.1, qm_X8_walker.2.2.2.2.1, qm_X8_walker.2.2.2.2.2.1, qm_X8_walker.2.2.2.2.2.2.1, qm_X8_walker.2.2.2.2.2.2.2⟩
theorem v_L_38 : CV RL 38 8 yX8_routine cX8_routine 2 (some .int) 1 := ⟨qm_X8_routine.1, qm_X8_routine.2.1, Or.inl (m2 (List.mem_of_getElem? (i := 1035) (by decide +kernel)) (by decide +kernel)), qm_X8_routine.2.2.1, qm_X8_routine.2.2.2.1, qm_X8_routine.2.2.2.2.1, qm_X8_routine.2.2.2.2.2.1, qm_X8_routine.2.2.2.2.2.2.1, qm_X8_routine.2.2.2.2.2.2.2⟩
theorem v_L_42 : CV RL 42 8 yX8_wire cX8_wire 4 (some .int) 2 := ⟨qm_X8_wire.1, qm_X8_wire.2.1, Or.inl (m2 (List.mem_of_getElem? (i := 1043) (by decide +kernel)) (by decide +kernel)), qm_X8_wire.2.2.1, qm_X8_wire.2.2.2.1, qm_X8_wire.2.2.2.2.1, qm_X8_wire.2.2.2.2.2.1, qm_X8_wire.2.2.2.2.2.2.1, qm_X8_wire.2.2.2.2.2.2.2⟩
theorem v_L_47 : CV RL 47 8 yX8_event cX8_event 4 (some .int) 3 := ⟨qm_X8_event.1, qm_X8_event.2.1, Or.inl (m2 (List.mem_of_getElem? (i := 1054) (by decide +kernel)) (by decide +kernel)), qm_X8_event.2.2.1, qm_X8_event.2.2.2.1, qm_X8_event.2.2.2.2.1, qm_X8_event.2.2.2.2.2.1, qm_X8_event.2.2.2.2.2.2.1, qm_X8_event.2.2.2.2.2.2.2⟩
theorem v_L_52 : CV RL 52 8 yX8_back cX8_back 1 (some .int) 0 := ⟨qm_X8_back.1, qm_X8_back.2.1, Or.inl (m2 (List.mem_of_getElem? (i := 1058) (by decide +kernel)) (by decide +kernel)), qm_X8_back.2.2.1, qm_X8_back.2.2.2.1, qm_X8_back.2.2.2.2.1, qm_X8_back.2.2.2.2.2.1, qm_X8_back.2.2.2.2.2.2.1, qm_X8_back.2.2.2.2.2.2.2⟩
theorem v_L_56 : CV RL 56 8 yX8_read cX8_read 5 (some .int) 1 := ⟨qm_X8_read.1, qm_X8_read.2.1, Or.inl (m2 (List.mem_of_getElem? (i := 1062) (by decide +kernel)) (by decide +kernel)), qm_X8_read.2.2.1, qm_X8_read.2.2.2.1, qm_X8_read.2.2.2.2.1, qm_X8_read.2.2.2.2.2.1, qm_X8_read.2.2.2.2.2.2.1, qm_X8_read.2.2.2.2.2.2.2⟩
theorem v_L_60 : CV RL 60 8 yX8_at cX8_at 4 (some .int) 3 := ⟨qm_X8_at.1, qm_X8_at.2.1, Or.inl (m2 (List.mem_of_getElem? (i := 1067) (by decide +kernel)) (by decide +kernel)), qm_X8_at.2.2.1, qm_X8_at.2.2.2.1, qm_X8_at.2.2.2.2.1, qm_X8_at.2.2.2.2.2.1, qm_X8_at.2.2.2.2.2.2.1, qm_X8_at.2.2.2.2.2.2.2⟩
theorem v_L_64 : CV RL 64 8 yX8_lean cX8_lean 3 (some .int) 2 := ⟨qm_X8_lean.1, qm_X8_lean.2.1, Or.inl (m2 (List.mem_of_getElem? (i := 1116) (by decide +kernel)) (by decide +kernel)), qm_X8_lean.2.2.1, qm_X8_lean.2.2.2.1, qm_X8_lean.2.2.2.2.1, qm_X8_lean.2.2.2.2.2.1, qm_X8_lean.2.2.2.2.2.2.1, qm_X8_lean.2.2.2.2.2.2.2⟩
theorem v_L_68 : CV RL 68 8 yX8_sees cX8_sees 3 (some .int) 2 := ⟨qm_X8_sees.1, qm_X8_sees.2.1, Or.inl (m2 (List.mem_of_getElem? (i := 1120) (by decide +kernel)) (by decide +kernel)), qm_X8_sees.2.2.1, qm_X8_sees.2.2.2.1, qm_X8_sees.2.2.2.2.1, qm_X8_sees.2.2.2.2.2.1, qm_X8_sees.2.2.2.2.2.2.1, qm_X8_sees.2.2.2.2.2.2.2⟩
theorem v_L_72 : CV RL 72 8 yX8_sway cX8_sway 2 (some .int) 1 := ⟨qm_X8_sway.1, qm_X8_sway.2.1, Or.inl (m2 (List.mem_of_getElem? (i := 1128) (by decide +kernel)) (by decide +kernel)), qm_X8_sway.2.2.1, qm_X8_sway.2.2.2.1, qm_X8_sway.2.2.2.2.1, qm_X8_sway.2.2.2.2.2.1, qm_X8_sway.2.2.2.2.2.2.1, qm_X8_sway.2.2.2.2.2.2.2⟩
theorem v_L_76 : CV RL 76 8 yX8_ends cX8_ends 3 (some .int) 2 := ⟨qm_X8_ends.1, qm_X8_ends.2.1, Or.inl (m2 (List.mem_of_getElem? (i := 1132) (by decide +kernel)) (by decide +kernel)), qm_X8_ends.2.2.1, qm_X8_ends.2.2.2.1, qm_X8_ends.2.2.2.2.1, qm_X8_ends.2.2.2.2.2.1, qm_X8_ends.2.2.2.2.2.2.1, qm_X8_ends.2.2.2.2.2.2.2⟩
theorem v_L_80 : CV RL 80 8 yX8_sum cX8_sum 2 (some .int) 1 := ⟨qm_X8_sum.1, qm_X8_sum.2.1, Or.inl (m2 (List.mem_of_getElem? (i := 1140) (by decide +kernel)) (by decide +kernel)), qm_X8_sum.2.2.1, qm_X8_sum.2.2.2.1, qm_X8_sum.2.2.2.2.1, qm_X8_sum.2.2.2.2.2.1, qm_X8_sum.2.2.2.2.2.2.1, qm_X8_sum.2.2.2.2.2.2.2⟩
theorem v_L_84 : CV RL 84 8 yX8_who cX8_who 2 (some .int) 1 := ⟨qm_X8_who.1, qm_X8_who.2.1, Or.inl (m2 (List.mem_of_getElem? (i := 1152) (by decide +kernel)) (by decide +kernel)), qm_X8_who.2.2.1, qm_X8_who.2.2.2.1, qm_X8_who.2.2.2.2.1, qm_X8_who.2.2.2.2.2.1, qm_X8_who.2.2.2.2.2.2.1, qm_X8_who.2.2.2.2.2.2.2⟩
theorem v_L_88 : CV RL 88 8 yX8_bare cX8_bare 1 (some .int) 0 := ⟨qm_X8_bare.1, qm_X8_bare.2.1, Or.inl (m2 (List.mem_of_getElem? (i := 1168) (by decide +kernel)) (by decide +kernel)), qm_X8_bare.2.2.1, qm_X8_bare.2.2.2.1, qm_X8_bare.2.2.2.2.1, qm_X8_bare.2.2.2.2.2.1, qm_X8_bare.2.2.2.2.2.2.1, qm_X8_bare.2.2.2.2.2.2.2⟩
theorem v_L_92 : CV RL 92 8 yX8_start cX8_start 3 (some .int) 2 := ⟨qm_X8_start.1, qm_X8_start.2.1, Or.inl (m2 (List.mem_of_getElem? (i := 1176) (by decide +kernel)) (by decide +kernel)), qm_X8_start.2.2.1, qm_X8_start.2.2.2.1, qm_X8_start.2.2.2.2.1, qm_X8_start.2.2.2.2.2.1, qm_X8_start.2.2.2.2.2.2.1, qm_X8_start.2.2.2.2.2.2.2⟩
theorem v_L_96 : CV RL 96 8 yX8_hold cX8_hold 3 (some .int) 2 := ⟨qm_X8_hold.1, qm_X8_hold.2.1, Or.inl (m2 (List.mem_of_getElem? (i := 1184) (by decide +kernel)) (by decide +kernel)), qm_X8_hold.2.2.1, qm_X8_hold.2.2.2.1, qm_X8_hold.2.2.2.2.1, qm_X8_hold.2.2.2.2.2.1, qm_X8_hold.2.2.2.2.2.2.1, qm_X8_hold.2.2.2.2.2.2.2⟩
theorem v_L_100 : CV RL 100 8 yX8_act cX8_act 3 (some .int) 2 := ⟨qm_X8_act.1, qm_X8_act.2.1, Or.inl (m2 (List.mem_of_getElem? (i := 1188) (by decide +kernel)) (by decide +kernel)), qm_X8_act.2.2.1, qm_X8_act.2.2.2.1, qm_X8_act.2.2.2.2.1, qm_X8_act.2.2.2.2.2.1, qm_X8_act.2.2.2.2.2.2.1, qm_X8_act.2.2.2.2.2.2.2⟩
theorem v_L_104 : CV RL 104 8 yX8_spare cX8_spare 2 (some .int) 1 := ⟨qm_X8_spare.1, qm_X8_spare.2.1, Or.inl (m2 (List.mem_of_getElem? (i := 1196) (by decide +kernel)) (by decide +kernel)), qm_X8_spare.2.2.1, qm_X8_spare.2.2.2.1, qm_X8_spare.2.2.2.2.1, qm_X8_spare.2.2.2.2.2.1, qm_X8_spare.2.2.2.2.2.2.1, qm_X8_spare.2.2.2.2.2.2.2⟩
theorem v_L_108 : CV RL 108 8 yX8_seen cX8_seen 4 (some .int) 3 := ⟨qm_X8_seen.1, qm_X8_seen.2.1, Or.inl (m2 (List.mem_of_getElem? (i := 1209) (by decide +kernel)) (by decide +kernel)), qm_X8_seen.2.2.1, qm_X8_seen.2.2.2.1, qm_X8_seen.2.2.2.2.1, qm_X8_seen.2.2.2.2.2.1, qm_X8_seen.2.2.2.2.2.2.1, qm_X8_seen.2.2.2.2.2.2.2⟩
theorem v_L_112 : CV RL 112 8 yX8_forget cX8_forget 2 (some .int) 0 := ⟨qm_X8_forget.1, qm_X8_forget.2.1, Or.inl (m2 (List.mem_of_getElem? (i := 1213) (by decide +kernel)) (by decide +kernel)), qm_X8_forget.2.2.1, qm_X8_forget.2.2.2.1, qm_X8_forget.2.2.2.2.1, qm_X8_forget.2.2.2.2.2.1, qm_X8_forget.2.2.2.2.2.2.1, qm_X8_forget.2.2.2.2.2.2.2⟩
theorem v_L_116 : CV RL 116 8 yX8_never cX8_never 1 (some .int) 0 := ⟨qm_X8_never.1, qm_X8_never.2.1, Or.inl (m2 (List.mem_of_getElem? (i := 1217) (by decide +kernel)) (by decide +kernel)), qm_X8_never.2.2.1, qm_X8_never.2.2.2.1, qm_X8_never.2.2.2.2.1, qm_X8_never.2.2.2.2.2.1, qm_X8_never.2.2.2.2.2.2.1, qm_X8_never.2.2.2.2.2.2.2⟩
theorem v_L_120 : CV RL 120 8 yX8_was cX8_was 3 (some .int) 2 := ⟨qm_X8_was.1, qm_X8_was.2.1, Or.inl (m2 (List.mem_of_getElem? (i := 1229) (by decide +kernel)) (by decide +kernel)), qm_X8_was.2.2.1, qm_X8_was.2.2.2.1, qm_X8_was.2.2.2.2.1, qm_X8_was.2.2.2.2.2.1, qm_X8_was.2.2.2.2.2.2.1, qm_X8_was.2.2.2.2.2.2.2⟩
theorem v_L_124 : CV RL 124 8 yX8_ask cX8_ask 2 (some .int) 1 := ⟨qm_X8_ask.1, qm_X8_ask.2.1, Or.inl (m2 (List.mem_of_getElem? (i := 1250) (by decide +kernel)) (by decide +kernel)), qm_X8_ask.2.2.1, qm_X8_ask.2.2.2.1, qm_X8_ask.2.2.2.2.1, qm_X8_ask.2.2.2.2.2.1, qm_X8_ask.2.2.2.2.2.2.1, qm_X8_ask.2.2.2.2.2.2.2⟩
theorem v_L_129 : CV RL 129 8 yX8_chance cX8_chance 4 (some .long) 3 := ⟨qm_X8_chance.1, qm_X8_chance.2.1, Or.inl (m2 (List.mem_of_getElem? (i := 1262) (by decide +kernel)) (by decide +kernel)), qm_X8_chance.2.2.1, qm_X8_chance.2.2.2.1, qm_X8_chance.2.2.2.2.1, qm_X8_chance.2.2.2.2.2.1, qm_X8_chance.2.2.2.2.2.2.1, qm_X8_chance.2.2.2.2.2.2.2⟩
theorem v_L_133 : CV RL 133 8 yX8_shows cX8_shows 4 (some .int) 3 := ⟨qm_X8_shows.1, qm_X8_shows.2.1, Or.inl (m2 (List.mem_of_getElem? (i := 1278) (by decide +kernel)) (by decide +kernel)), qm_X8_shows.2.2.1, qm_X8_shows.2.2.2.1, qm_X8_shows.2.2.2.2.1, qm_X8_shows.2.2.2.2.2.1, qm_X8_shows.2.2.2.2.2.2.1, qm_X8_shows.2.2.2.2.2.2.2⟩
theorem v_L_159 : CV RL 159 8 yX8_write cX8_write 5 (some .int) 2 := ⟨qm_X8_write.1, qm_X8_write.2.1, Or.inl (m2 (List.mem_of_getElem? (i := 1292) (by decide +kernel)) (by decide +kernel)), qm_X8_write.2.2.1, qm_X8_write.2.2.2.1, qm_X8_write.2.2.2.2.1, qm_X8_write.2.2.2.2.2.1, qm_X8_write.2.2.2.2.2.2.1, qm_X8_write.2.2.2.2.2.2.2⟩
theorem v_L_163 : CV RL 163 8 yX8_count cX8_count 2 (some .int) 1 := ⟨qm_X8_count.1, qm_X8_count.2.1, Or.inl (m2 (List.mem_of_getElem? (i := 1299) (by decide +kernel)) (by decide +kernel)), qm_X8_count.2.2.1, qm_X8_count.2.2.2.1, qm_X8_count.2.2.2.2.1, qm_X8_count.2.2.2.2.2.1, qm_X8_count.2.2.2.2.2.2.1, qm_X8_count.2.2.2.2.2.2.2⟩
theorem v_L_168 : CV RL 168 8 yX8_digest cX8_digest 4 (some .long) 0 := ⟨qm_X8_digest.1, qm_X8_digest.2.1, Or.inl (m2 (List.mem_of_getElem? (i := 1303) (by decide +kernel)) (by decide +kernel)), qm_X8_digest.2.2.1, qm_X8_digest.2.2.2.1, qm_X8_digest.2.2.2.2.1, qm_X8_digest.2.2.2.2.2.1, qm_X8_digest.2.2.2.2.2.2.1, qm_X8_digest.2.2.2.2.2.2.2⟩
theorem s_X0_24 : CS RX0 24 yX0_rowOf cX0_rowOf 3 (some .int) 2 := ⟨Or.inl (m2 (List.mem_of_getElem? (i := 568) (by decide +kernel)) (by decide +kernel)), qs_X0_rowOf.1, qs_X0_rowOf.2.1, qs_X0_rowOf.2.2.1, qs_X0_rowOf.2.2.2.1, qs_X0_rowOf.2.2.2.2⟩
theorem s_X0_28 : CS RX0 28 yX7_isBeat cX7_isBeat 1 (some .boolean) 1 := ⟨Or.inr ⟨"WireWalkers", m2 (List.mem_of_getElem? (i := 563) (by decide +kernel)) (by decide +kernel)⟩, qs_X7_isBeat.1, qs_X7_isBeat.2.1, qs_X7_isBeat.2.2.1, qs_X7_isBeat.2.2.2.1, qs_X7_isBeat.2.2.2.2⟩
theorem s_X0_35 : CS RX0 35 yX7_within cX7_within 3 (some .boolean) 3 := ⟨Or.inr ⟨"WireWalkers", m2 (List.mem_of_getElem? (i := 571) (by decide +kernel)) (by decide +kernel)⟩, qs_X7_within.1, qs_X7_within.2.1, qs_X7_within.2.2.1, qs_X7_within.2.2.2.1, qs_X7_within.2.2.2.2⟩
theorem s_X1_26 : CS RX1 26 yJ7_fill_53178 cJ7_fill_53178 4 none 2 := ⟨Or.inl (m2 (List.mem_of_getElem? (i := 742) (by decide +kernel)) (by decide +kernel)), qs_J7_fill_53178.1, qs_J7_fill_53178.2.1, qs_J7_fill_53178.2.2.1, qs_J7_fill_53178.2.2.2.1, qs_J7_fill_53178.2.2.2.2⟩
theorem s_X2_112 : CS RX2 112 yX7_within cX7_within 3 (some .boolean) 3 := ⟨Or.inr ⟨"WireWalkers", m2 (List.mem_of_getElem? (i := 535) (by decide +kernel)) (by decide +kernel)⟩, qs_X7_within.1, qs_X7_within.2.1, qs_X7_within.2.2.1, qs_X7_within.2.2.2.1, qs_X7_within.2.2.2.2⟩
theorem s_X2_136 : CS RX2 136 yX2_signOf cX2_signOf 1 (some .int) 1 := ⟨Or.inl (m2 (List.mem_of_getElem? (i := 540) (by decide +kernel)) (by decide +kernel)), qs_X2_signOf.1, qs_X2_signOf.2.1, qs_X2_signOf.2.2.1, qs_X2_signOf.2.2.2.1, qs_X2_signOf.2.2.2.2⟩
theorem s_X2_98 : CS RX2 98 yX7_isBeat cX7_isBeat 1 (some .boolean) 1 := ⟨Or.inr ⟨"WireWalkers", m2 (List.mem_of_getElem? (i := 530) (by decide +kernel)) (by decide +kernel)⟩, qs_X7_isBeat.1, qs_X7_isBeat.2.1, qs_X7_isBeat.2.2.1, qs_X7_isBeat.2.2.2.1, qs_X7_isBeat.2.2.2.2⟩
theorem s_X4_29 : CS RX4 29 yX4_fitsWalkers cX4_fitsWalkers 2 (some .boolean) 2 := ⟨Or.inl (m2 (List.mem_of_getElem? (i := 404) (by decide +kernel)) (by decide +kernel)), qs_X4_fitsWalkers.1, qs_X4_fitsWalkers.2.1, qs_X4_fitsWalkers.2.2.1, qs_X4_fitsWalkers.2.2.2.1, qs_X4_fitsWalkers.2.2.2.2⟩
theorem s_X4_33 : CS RX4 33 yX4_moveOf cX4_moveOf 1 (some .int) 1 := ⟨Or.inl (m2 (List.mem_of_getElem? (i := 424) (by decide +kernel)) (by decide +kernel)), qs_X4_moveOf.1, qs_X4_moveOf.2.1, qs_X4_moveOf.2.2.1, qs_X4_moveOf.2.2.2.1, qs_X4_moveOf.2.2.2.2⟩
theorem s_X4_36 : CS RX4 36 yX7_within cX7_within 3 (some .boolean) 3 := ⟨Or.inr ⟨"WireWalkers", m2 (List.mem_of_getElem? (i := 407) (by decide +kernel)) (by decide +kernel)⟩, qs_X7_within.1, qs_X7_within.2.1, qs_X7_within.2.2.1, qs_X7_within.2.2.2.1, qs_X7_within.2.2.2.2⟩
theorem s_X4_40 : CS RX4 40 yX4_sortOf cX4_sortOf 1 (some .int) 1 := ⟨Or.inl (m2 (List.mem_of_getElem? (i := 408) (by decide +kernel)) (by decide +kernel)), qs_X4_sortOf.1, qs_X4_sortOf.2.1, qs_X4_sortOf.2.2.1, qs_X4_sortOf.2.2.2.1, qs_X4_sortOf.2.2.2.2⟩
theorem s_X5_68 : CS RX5 68 yX4_sortOf cX4_sortOf 1 (some .int) 1 := ⟨Or.inl (m2 (List.mem_of_getElem? (i := 415) (by decide +kernel)) (by decide +kernel)), qs_X4_sortOf.1, qs_X4_sortOf.2.1, qs_X4_sortOf.2.2.1, qs_X4_sortOf.2.2.2.1, qs_X4_sortOf.2.2.2.2⟩
theorem s_X5_74 : CS RX5 74 yX4_moveOf cX4_moveOf 1 (some .int) 1 := ⟨Or.inl (m2 (List.mem_of_getElem? (i := 427) (by decide +kernel)) (by decide +kernel)), qs_X4_moveOf.1, qs_X4_moveOf.2.1, qs_X4_moveOf.2.2.1, qs_X4_moveOf.2.2.2.1, qs_X4_moveOf.2.2.2.2⟩
theorem s_X5_77 : CS RX5 77 yX7_within cX7_within 3 (some .boolean) 3 := ⟨Or.inr ⟨"WireWalkers", m2 (List.mem_of_getElem? (i := 472) (by decide +kernel)) (by decide +kernel)⟩, qs_X7_within.1, qs_X7_within.2.1, qs_X7_within.2.2.1, qs_X7_within.2.2.2.1, qs_X7_within.2.2.2.2⟩
theorem s_X5_81 : CS RX5 81 yX7_isBeat cX7_isBeat 1 (some .boolean) 1 := ⟨Or.inr ⟨"WireWalkers", m2 (List.mem_of_getElem? (i := 473) (by decide +kernel)) (by decide +kernel)⟩, qs_X7_isBeat.1, qs_X7_isBeat.2.1, qs_X7_isBeat.2.2.1, qs_X7_isBeat.2.2.2.1, qs_X7_isBeat.2.2.2.2⟩
theorem s_X6_21 : CS RX6 21 yJ7_fill_53178 cJ7_fill_53178 4 none 2 := ⟨Or.inl (m2 (List.mem_of_getElem? (i := 518) (by decide +kernel)) (by decide +kernel)), qs_J7_fill_53178.1, qs_J7_fill_53178.2.1, qs_J7_fill_53178.2.2.1, qs_J7_fill_53178.2.2.2.1, qs_J7_fill_53178.2.2.2.2⟩
theorem s_X6_36 : CS RX6 36 yX7_isBeat cX7_isBeat 1 (some .boolean) 1 := ⟨Or.inr ⟨"WireWalkers", m2 (List.mem_of_getElem? (i := 521) (by decide +kernel)) (by decide +kernel)⟩, qs_X7_isBeat.1, qs_X7_isBeat.2.1, qs_X7_isBeat.2.2.1, qs_X7_isBeat.2.2.2.1, qs_X7_isBeat.2.2.2.2⟩
theorem s_X7_126 : CS RX7 126 yX7_isBeat cX7_isBeat 1 (some .boolean) 1 := ⟨Or.inl (m2 (List.mem_of_getElem? (i := 458) (by decide +kernel)) (by decide +kernel)), qs_X7_isBeat.1, qs_X7_isBeat.2.1, qs_X7_isBeat.2.2.1, qs_X7_isBeat.2.2.2.1, qs_X7_isBeat.2.2.2.2⟩
theorem s_X7_144 : CS RX7 144 yX5_mayBeEvent cX5_mayBeEvent 3 (some .boolean) 3 := ⟨Or.inl (m2 (List.mem_of_getElem? (i := 469) (by decide +kernel)) (by decide +kernel)), qs_X5_mayBeEvent.1, qs_X5_mayBeEvent.2.1, qs_X5_mayBeEvent.2.2.1, qs_X5_mayBeEvent.2.2.2.1, qs_X5_mayBeEvent.2.2.2.2⟩
theorem s_X7_157 : CS RX7 157 yX7_isSheet cX7_isSheet 1 (some .boolean) 1 := ⟨Or.inl (m2 (List.mem_of_getElem? (i := 490) (by decide +kernel)) (by decide +kernel)), qs_X7_isSheet.1, qs_X7_isSheet.2.1, qs_X7_isSheet.2.2.1, qs_X7_isSheet.2.2.2.1, qs_X7_isSheet.2.2.2.2⟩
theorem s_X7_287 : CS RX7 287 yX7_isForm cX7_isForm 1 (some .boolean) 1 := ⟨Or.inl (m2 (List.mem_of_getElem? (i := 735) (by decide +kernel)) (by decide +kernel)), qs_X7_isForm.1, qs_X7_isForm.2.1, qs_X7_isForm.2.2.1, qs_X7_isForm.2.2.2.1, qs_X7_isForm.2.2.2.2⟩
theorem s_X7_294 : CS RX7 294 yX7_findingAt cX7_findingAt 3 (some .int) 3 := ⟨Or.inl (m2 (List.mem_of_getElem? (i := 753) (by decide +kernel)) (by decide +kernel)), qs_X7_findingAt.1, qs_X7_findingAt.2.1, qs_X7_findingAt.2.2.1, qs_X7_findingAt.2.2.2.1, qs_X7_findingAt.2.2.2.2⟩
theorem s_X7_322 : CS RX7 322 yX7_mixed cX7_mixed 4 (some .long) 2 := ⟨Or.inl (m2 (List.mem_of_getElem? (i := 794) (by decide +kernel)) (by decide +kernel)), qs_X7_mixed.1, qs_X7_mixed.2.1, qs_X7_mixed.2.2.1, qs_X7_mixed.2.2.2.1, qs_X7_mixed.2.2.2.2⟩
theorem s_X7_85 : CS RX7 85 yX7_within cX7_within 3 (some .boolean) 3 := ⟨Or.inl (m2 (List.mem_of_getElem? (i := 373) (by decide +kernel)) (by decide +kernel)), qs_X7_within.1, qs_X7_within.2.1, qs_X7_within.2.2.1, qs_X7_within.2.2.2.1, qs_X7_within.2.2.2.2⟩
theorem s_X8_109 : CS RX8 109 yX8_cut cX8_cut 2 (some .int) 2 := ⟨Or.inl (m2 (List.mem_of_getElem? (i := 972) (by decide +kernel)) (by decide +kernel)), qs_X8_cut.1, qs_X8_cut.2.1, qs_X8_cut.2.2.1, qs_X8_cut.2.2.2.1, qs_X8_cut.2.2.2.2⟩
theorem s_X8_114 : CS RX8 114 yX8_isTwo cX8_isTwo 1 (some .boolean) 1 := ⟨Or.inl (m2 (List.mem_of_getElem? (i := 988) (by decide +kernel)) (by decide +kernel)), qs_X8_isTwo.1, qs_X8_isTwo.2.1, qs_X8_isTwo.2.2.1, qs_X8_isTwo.2.2.2.1, qs_X8_isTwo.2.2.2.2⟩
theorem s_X8_130 : CS RX8 130 yX8_walkerOf cX8_walkerOf 2 (some .int) 2 := ⟨Or.inl (m2 (List.mem_of_getElem? (i := 1012) (by decide +kernel)) (by decide +kernel)), qs_X8_walkerOf.1, qs_X8_walkerOf.2.1, qs_X8_walkerOf.2.2.1, qs_X8_walkerOf.2.2.2.1, qs_X8_walkerOf.2.2.2.2⟩
theorem s_X8_154 : CS RX8 154 yX8_isBeat cX8_isBeat 1 (some .boolean) 1 := ⟨Or.inl (m2 (List.mem_of_getElem? (i := 1039) (by decide +kernel)) (by decide +kernel)), qs_X8_isBeat.1, qs_X8_isBeat.2.1, qs_X8_isBeat.2.2.1, qs_X8_isBeat.2.2.2.1, qs_X8_isBeat.2.2.2.2⟩
theorem s_X8_165 : CS RX8 165 yX8_isSet cX8_isSet 2 (some .boolean) 2 := ⟨Or.inl (m2 (List.mem_of_getElem? (i := 1047) (by decide +kernel)) (by decide +kernel)), qs_X8_isSet.1, qs_X8_isSet.2.1, qs_X8_isSet.2.2.1, qs_X8_isSet.2.2.2.1, qs_X8_isSet.2.2.2.2⟩
theorem s_X8_181 : CS RX8 181 yX8_isIn cX8_isIn 2 (some .boolean) 2 := ⟨Or.inl (m2 (List.mem_of_getElem? (i := 1087) (by decide +kernel)) (by decide +kernel)), qs_X8_isIn.1, qs_X8_isIn.2.1, qs_X8_isIn.2.2.1, qs_X8_isIn.2.2.2.1, qs_X8_isIn.2.2.2.2⟩
theorem s_X8_201 : CS RX8 201 yX8_size cX8_size 1 (some .int) 1 := ⟨Or.inl (m2 (List.mem_of_getElem? (i := 1110) (by decide +kernel)) (by decide +kernel)), qs_X8_size.1, qs_X8_size.2.1, qs_X8_size.2.2.1, qs_X8_size.2.2.2.1, qs_X8_size.2.2.2.2⟩
theorem s_X8_210 : CS RX8 210 yX8_greater cX8_greater 2 (some .int) 2 := ⟨Or.inl (m2 (List.mem_of_getElem? (i := 1113) (by decide +kernel)) (by decide +kernel)), qs_X8_greater.1, qs_X8_greater.2.1, qs_X8_greater.2.2.1, qs_X8_greater.2.2.2.1, qs_X8_greater.2.2.2.2⟩
theorem s_X8_292 : CS RX8 292 yX8_part cX8_part 11 (some .long) 3 := ⟨Or.inl (m2 (List.mem_of_getElem? (i := 1271) (by decide +kernel)) (by decide +kernel)), qs_X8_part.1, qs_X8_part.2.1, qs_X8_part.2.2.1, qs_X8_part.2.2.2.1, qs_X8_part.2.2.2.2⟩
theorem s_X8_302 : CS RX8 302 yX8_no cX8_no 1 (some .long) 1 := ⟨Or.inl (m2 (List.mem_of_getElem? (i := 1274) (by decide +kernel)) (by decide +kernel)), qs_X8_no.1, qs_X8_no.2.1, qs_X8_no.2.2.1, qs_X8_no.2.2.2.1, qs_X8_no.2.2.2.2⟩
theorem s_X8_317 : CS RX8 317 yX8_lesser cX8_lesser 2 (some .int) 2 := ⟨Or.inl (m2 (List.mem_of_getElem? (i := 1296) (by decide +kernel)) (by decide +kernel)), qs_X8_lesser.1, qs_X8_lesser.2.1, qs_X8_lesser.2.2.1, qs_X8_lesser.2.2.2.1, qs_X8_lesser.2.2.2.2⟩
theorem s_X8_85 : CS RX8 85 yX8_in cX8_in 6 (some .boolean) 3 := ⟨Or.inl (m2 (List.mem_of_getElem? (i := 952) (by decide +kernel)) (by decide +kernel)), qs_X8_in.1, qs_X8_in.2.1, qs_X8_in.2.2.1, qs_X8_in.2.2.2.1, qs_X8_in.2.2.2.2⟩
theorem s_X8_95 : CS RX8 95 yX8_isSheet cX8_isSheet 1 (some .boolean) 1 := ⟨Or.inl (m2 (List.mem_of_getElem? (i := 948) (by decide +kernel)) (by decide +kernel)), qs_X8_isSheet.1, qs_X8_isSheet.2.1, qs_X8_isSheet.2.2.1, qs_X8_isSheet.2.2.2.1, qs_X8_isSheet.2.2.2.2⟩
theorem w_st_max : Cond.static Lib.Math.max.name ∈ tb2 := m2 (List.mem_of_getElem? (i := 101) (by decide +kernel)) (by decide +kernel)
theorem w_co_max : Cond.code Lib.Math.max.name Lib.Math.max.code 2 (some .int) ∈ tb2 := m2 (List.mem_of_getElem? (i := 102) (by decide +kernel)) (by decide +kernel)
theorem w_st_min : Cond.static Lib.Math.min.name ∈ tb2 := m2 (List.mem_of_getElem? (i := 412) (by decide +kernel)) (by decide +kernel)
theorem w_co_min : Cond.code Lib.Math.min.name Lib.Math.min.code 2 (some .int) ∈ tb2 := m2 (List.mem_of_getElem? (i := 413) (by decide +kernel)) (by decide +kernel)
theorem w_st_abs : Cond.static Lib.Math.abs.name ∈ tb2 := m2 (List.mem_of_getElem? (i := 544) (by decide +kernel)) (by decide +kernel)
theorem w_co_abs : Cond.code Lib.Math.abs.name Lib.Math.abs.code 1 (some .int) ∈ tb2 := m2 (List.mem_of_getElem? (i := 545) (by decide +kernel)) (by decide +kernel)
theorem w_in_Math : Cond.initialized "java/lang/Math" ∈ tb2 := m2 (List.mem_of_getElem? (i := 76) (by decide +kernel)) (by decide +kernel)
theorem w_in_System : Cond.initialized "java/lang/System" ∈ tb2 := m2 (List.mem_of_getElem? (i := 85) (by decide +kernel)) (by decide +kernel)
theorem w_na_ac : Cond.native arraycopyName ∈ tb2 := m2 (List.mem_of_getElem? (i := 778) (by decide +kernel)) (by decide +kernel)
theorem w_st_ac : Cond.static arraycopyName ∈ tb2 := m2 (List.mem_of_getElem? (i := 777) (by decide +kernel)) (by decide +kernel)
theorem mw_X1_32 : Cond.methodLink RX1 32 Lib.Math.min.name ∈ tb2 := m2 (List.mem_of_getElem? (i := 743) (by decide +kernel)) (by decide +kernel)
theorem mw_X1_38 : Cond.methodLink RX1 38 Lib.Math.max.name ∈ tb2 := m2 (List.mem_of_getElem? (i := 744) (by decide +kernel)) (by decide +kernel)
theorem mw_X2_71 : Cond.methodLink RX2 71 Lib.Math.min.name ∈ tb2 := m2 (List.mem_of_getElem? (i := 509) (by decide +kernel)) (by decide +kernel)
theorem mw_X2_140 : Cond.methodLink RX2 140 Lib.Math.abs.name ∈ tb2 := m2 (List.mem_of_getElem? (i := 543) (by decide +kernel)) (by decide +kernel)
theorem mw_X2_146 : Cond.methodLink RX2 146 Lib.Math.max.name ∈ tb2 := m2 (List.mem_of_getElem? (i := 550) (by decide +kernel)) (by decide +kernel)
theorem mw_X5_58 : Cond.methodLink RX5 58 Lib.Math.min.name ∈ tb2 := m2 (List.mem_of_getElem? (i := 411) (by decide +kernel)) (by decide +kernel)
theorem mw_X7_279 : Cond.methodLink RX7 279 Lib.Math.max.name ∈ tb2 := m2 (List.mem_of_getElem? (i := 707) (by decide +kernel)) (by decide +kernel)
theorem mw_X7_308 : Cond.methodLink RX7 308 arraycopyName ∈ tb2 := m2 (List.mem_of_getElem? (i := 776) (by decide +kernel)) (by decide +kernel)
theorem mw_X7_314 : Cond.methodLink RX7 314 Lib.Math.min.name ∈ tb2 := m2 (List.mem_of_getElem? (i := 783) (by decide +kernel)) (by decide +kernel)
end
section
def f_J7_fill_53178 (h : Hp) (a1 : Nat) (a2 : Int32) : Option Hp :=
  nm (nI (sl a1)) fun x1 =>
  fx2 FU (fun s1 (h2 : Hp) (x3 : Int32) =>
    if x1 ≤ x3 then (
      some h2)
    else (
      ck x3 (sl a1) (nm (ux h2 a1 x3 a2) fun h4 =>
      nm (x3 + (1 : Int32)) fun x5 =>
      s1 h4 x5))) h (0 : Int32)
theorem dJ7_fill_53178_0 : decode cJ7_fill_53178 0 = .ok (.iconst 0, 1) := by decide +kernel
theorem dJ7_fill_53178_1 : decode cJ7_fill_53178 1 = .ok (.istore_n 2, 1) := by decide +kernel
theorem dJ7_fill_53178_2 : decode cJ7_fill_53178 2 = .ok (.aload_n 0, 1) := by decide +kernel
theorem dJ7_fill_53178_3 : decode cJ7_fill_53178 3 = .ok (.arraylength, 1) := by decide +kernel
theorem dJ7_fill_53178_4 : decode cJ7_fill_53178 4 = .ok (.istore_n 3, 1) := by decide +kernel
theorem dJ7_fill_53178_5 : decode cJ7_fill_53178 5 = .ok (.iload_n 2, 1) := by decide +kernel
theorem dJ7_fill_53178_6 : decode cJ7_fill_53178 6 = .ok (.iload_n 3, 1) := by decide +kernel
theorem dJ7_fill_53178_7 : decode cJ7_fill_53178 7 = .ok (.if_icmp .ge 13, 3) := by decide +kernel
theorem dJ7_fill_53178_10 : decode cJ7_fill_53178 10 = .ok (.aload_n 0, 1) := by decide +kernel
theorem dJ7_fill_53178_11 : decode cJ7_fill_53178 11 = .ok (.iload_n 2, 1) := by decide +kernel
theorem dJ7_fill_53178_12 : decode cJ7_fill_53178 12 = .ok (.iload_n 1, 1) := by decide +kernel
theorem dJ7_fill_53178_13 : decode cJ7_fill_53178 13 = .ok (.iastore, 1) := by decide +kernel
theorem dJ7_fill_53178_14 : decode cJ7_fill_53178 14 = .ok (.iinc 2 1, 3) := by decide +kernel
theorem dJ7_fill_53178_17 : decode cJ7_fill_53178 17 = .ok (.goto (-12), 3) := by decide +kernel
theorem dJ7_fill_53178_20 : decode cJ7_fill_53178 20 = .ok (.return_, 1) := by decide +kernel
set_option maxRecDepth 20000 in
theorem m_J7_fill_53178 {h : Hp} {a1 : Nat} {a2 : Int32} (ha1 : sk a1 = 9) {u : Hp} (hu : f_J7_fill_53178 h a1 a2 = some u) : Ct yJ7_fill_53178 cJ7_fill_53178 4 none 0 [.ref a1, .int a2] h (eV u) := by
  refine ct_of eV hu (by decide) (Nat.le_of_ble_eq_true rfl) (fun κ hn C E => ?_)
  have n2 : 2 < kn κ := by rw [hn]; decide
  have n3 : 3 < kn κ := by rw [hn]; decide
  unfold f_J7_fill_53178
  show Xz κ _ 0 [(0, .ref a1), (1, .int a2)] [] h
  refine x_iconst 1 C dJ7_fill_53178_0 ci_0 rfl ?_
  refine x_istore_n 2 [(2, .int (0 : Int32)), (0, .ref a1), (1, .int a2)] C dJ7_fill_53178_1 n2 rfl rfl rfl ?_
  refine x_aload_n 3 C dJ7_fill_53178_2 1 rfl rfl rfl ?_
  refine x_alen 4 C dJ7_fill_53178_3 ha1 rfl rfl ?_
  refine x_ni (fun x1 => ?_)
  refine x_istore_n 5 [(3, .int x1), (2, .int (0 : Int32)), (0, .ref a1), (1, .int a2)] C dJ7_fill_53178_4 n3 rfl rfl rfl ?_
  refine x_ls [2, 3, 1, 0] rfl (x_fx2 (ls := fun h2 x3 => [(0, .ref a1), (1, .int a2), (2, .int x3), (3, .int x1)]) (st := fun h2 x3 => []) (hh := fun h2 x3 => h2) (fun s1 J1 h2 x3 => ?_))
  refine x_iload_n 6 C dJ7_fill_53178_5 2 rfl rfl rfl ?_
  refine x_iload_n 7 C dJ7_fill_53178_6 3 rfl rfl rfl ?_
  refine x_icmp_ge 10 20 C dJ7_fill_53178_7 (by decide) rfl (fun _ => ?_) (fun _ => ?_)
  · exact x_vret C E dJ7_fill_53178_20 rfl
  · refine x_aload_n 11 C dJ7_fill_53178_10 0 rfl rfl rfl ?_
    refine x_iload_n 12 C dJ7_fill_53178_11 2 rfl rfl rfl ?_
    refine x_iload_n 13 C dJ7_fill_53178_12 1 rfl rfl rfl ?_
    refine x_iast 14 C dJ7_fill_53178_13 ha1 rfl rfl (fun h4 => ?_)
    refine x_iinc 17 (fun x5 => [(2, .int x5), (0, .ref a1), (1, .int a2), (3, .int x1)]) C dJ7_fill_53178_14 2 rfl ci_1 n2 (fun _ => rfl) rfl (fun x5 => ?_)
    refine x_goto 5 C dJ7_fill_53178_17 (by decide) ?_
    exact x_ls [1, 2, 0, 3] rfl (J1 h4 x5)

def f_X7_within (a1 : Int32) (a2 : Int32) (a3 : Int32) : Option Int32 :=
  if a1 < a2 then (
    some (0 : Int32))
  else (
    if a3 < a1 then (
      some (0 : Int32))
    else (
      some (1 : Int32)))
theorem dX7_within_0 : decode cX7_within 0 = .ok (.iload_n 0, 1) := by decide +kernel
theorem dX7_within_1 : decode cX7_within 1 = .ok (.iload_n 1, 1) := by decide +kernel
theorem dX7_within_2 : decode cX7_within 2 = .ok (.if_icmp .lt 12, 3) := by decide +kernel
theorem dX7_within_5 : decode cX7_within 5 = .ok (.iload_n 0, 1) := by decide +kernel
theorem dX7_within_6 : decode cX7_within 6 = .ok (.iload_n 2, 1) := by decide +kernel
theorem dX7_within_7 : decode cX7_within 7 = .ok (.if_icmp .gt 7, 3) := by decide +kernel
theorem dX7_within_10 : decode cX7_within 10 = .ok (.iconst 1, 1) := by decide +kernel
theorem dX7_within_11 : decode cX7_within 11 = .ok (.goto 4, 3) := by decide +kernel
theorem dX7_within_14 : decode cX7_within 14 = .ok (.iconst 0, 1) := by decide +kernel
theorem dX7_within_15 : decode cX7_within 15 = .ok (.ireturn, 1) := by decide +kernel
set_option maxRecDepth 20000 in
theorem m_X7_within {h : Hp} {a1 : Int32} {a2 : Int32} {a3 : Int32}  {u : Int32} (hu : f_X7_within a1 a2 a3 = some u) : Ct yX7_within cX7_within 3 (some .boolean) 0 [.int a1, .int a2, .int a3] h ((rI h) u) := by
  refine ct_of (rI h) hu (by decide) (Nat.le_of_ble_eq_true rfl) (fun κ hn C E => ?_)
  unfold f_X7_within
  show Xz κ _ 0 [(0, .int a1), (1, .int a2), (2, .int a3)] [] h
  refine x_iload_n 1 C dX7_within_0 0 rfl rfl rfl ?_
  refine x_iload_n 2 C dX7_within_1 1 rfl rfl rfl ?_
  refine x_icmp_lt 5 14 C dX7_within_2 (by decide) rfl (fun _ => ?_) (fun _ => ?_)
  · refine x_iconst 15 C dX7_within_14 ci_0 rfl ?_
    exact x_zret C E dX7_within_15 (Or.inl rfl) rfl
  · refine x_iload_n 6 C dX7_within_5 0 rfl rfl rfl ?_
    refine x_iload_n 7 C dX7_within_6 2 rfl rfl rfl ?_
    refine x_icmp_gt 10 14 C dX7_within_7 (by decide) rfl (fun _ => ?_) (fun _ => ?_)
    · refine x_iconst 15 C dX7_within_14 ci_0 rfl ?_
      exact x_zret C E dX7_within_15 (Or.inl rfl) rfl
    · refine x_iconst 11 C dX7_within_10 ci_1 rfl ?_
      refine x_goto 15 C dX7_within_11 (by decide) ?_
      exact x_zret C E dX7_within_15 (Or.inr rfl) rfl

def f_X7_isBeat (a1 : Int32) : Option Int32 :=
  bdr (f_X7_within a1 (0 : Int32) (23 : Int32)) fun x1 =>
  cy (x1 = 0 ∨ x1 = 1) (some x1)
theorem dX7_isBeat_0 : decode cX7_isBeat 0 = .ok (.iload_n 0, 1) := by decide +kernel
theorem dX7_isBeat_1 : decode cX7_isBeat 1 = .ok (.iconst 0, 1) := by decide +kernel
theorem dX7_isBeat_2 : decode cX7_isBeat 2 = .ok (.bipush 23, 2) := by decide +kernel
theorem dX7_isBeat_4 : decode cX7_isBeat 4 = .ok (.invokestatic 85, 3) := by decide +kernel
theorem dX7_isBeat_7 : decode cX7_isBeat 7 = .ok (.ireturn, 1) := by decide +kernel
set_option maxRecDepth 20000 in
theorem m_X7_isBeat {h : Hp} {a1 : Int32}  {u : Int32} (hu : f_X7_isBeat a1 = some u) : Ct yX7_isBeat cX7_isBeat 1 (some .boolean) 1 [.int a1] h ((rI h) u) := by
  refine ct_of (rI h) hu (by decide) (Nat.le_of_ble_eq_true rfl) (fun κ hn C E => ?_)
  unfold f_X7_isBeat
  show Xz κ _ 0 [(0, .int a1)] [] h
  refine x_iload_n 1 C dX7_isBeat_0 0 rfl rfl rfl ?_
  refine x_iconst 2 C dX7_isBeat_1 ci_0 rfl ?_
  refine x_bipush 4 C dX7_isBeat_2 cb_23 rfl ?_
  refine x_csi 7 [.int a1, .int (0 : Int32), .int (23 : Int32)] [] C 0 dX7_isBeat_4 s_X7_85 (fun u hu => m_X7_within hu) rfl rfl (Nat.le_of_ble_eq_true rfl) (Nat.le_of_ble_eq_true rfl) rfl (fun x1 => ?_)
  exact x_zrc C E dX7_isBeat_7 rfl

def f_X0_rowOf (a1 : Int32) (a2 : Int32) : Option Int32 :=
  bdr (f_X7_isBeat a1) fun x1 =>
  lt1 (fun (x2 : Int32) =>
    if x2 = 0 then (
      some (-1 : Int32))
    else (
      some ((a1 * (6 : Int32)) + a2))) fun k1 =>
  lt1 (fun (u3 : Int32) =>
    k1 (0 : Int32)) fun k2 =>
  if x1 = 0 then (
    k2 (0 : Int32))
  else (
    bdr (f_X7_within a2 (0 : Int32) (5 : Int32)) fun x4 =>
    if x4 = 0 then (
      k2 (0 : Int32))
    else (
      k1 (1 : Int32)))
theorem dX0_rowOf_0 : decode cX0_rowOf 0 = .ok (.iload_n 0, 1) := by decide +kernel
theorem dX0_rowOf_1 : decode cX0_rowOf 1 = .ok (.invokestatic 28, 3) := by decide +kernel
theorem dX0_rowOf_4 : decode cX0_rowOf 4 = .ok (.ifCond .eq 16, 3) := by decide +kernel
theorem dX0_rowOf_7 : decode cX0_rowOf 7 = .ok (.iload_n 1, 1) := by decide +kernel
theorem dX0_rowOf_8 : decode cX0_rowOf 8 = .ok (.iconst 0, 1) := by decide +kernel
theorem dX0_rowOf_9 : decode cX0_rowOf 9 = .ok (.iconst 5, 1) := by decide +kernel
theorem dX0_rowOf_10 : decode cX0_rowOf 10 = .ok (.invokestatic 35, 3) := by decide +kernel
theorem dX0_rowOf_13 : decode cX0_rowOf 13 = .ok (.ifCond .eq 7, 3) := by decide +kernel
theorem dX0_rowOf_16 : decode cX0_rowOf 16 = .ok (.iconst 1, 1) := by decide +kernel
theorem dX0_rowOf_17 : decode cX0_rowOf 17 = .ok (.goto 4, 3) := by decide +kernel
theorem dX0_rowOf_20 : decode cX0_rowOf 20 = .ok (.iconst 0, 1) := by decide +kernel
theorem dX0_rowOf_21 : decode cX0_rowOf 21 = .ok (.istore_n 2, 1) := by decide +kernel
theorem dX0_rowOf_22 : decode cX0_rowOf 22 = .ok (.iload_n 2, 1) := by decide +kernel
theorem dX0_rowOf_23 : decode cX0_rowOf 23 = .ok (.ifCond .eq 12, 3) := by decide +kernel
theorem dX0_rowOf_26 : decode cX0_rowOf 26 = .ok (.iload_n 0, 1) := by decide +kernel
theorem dX0_rowOf_27 : decode cX0_rowOf 27 = .ok (.bipush 6, 2) := by decide +kernel
theorem dX0_rowOf_29 : decode cX0_rowOf 29 = .ok (.imul, 1) := by decide +kernel
theorem dX0_rowOf_30 : decode cX0_rowOf 30 = .ok (.iload_n 1, 1) := by decide +kernel
theorem dX0_rowOf_31 : decode cX0_rowOf 31 = .ok (.iadd, 1) := by decide +kernel
theorem dX0_rowOf_32 : decode cX0_rowOf 32 = .ok (.goto 4, 3) := by decide +kernel
theorem dX0_rowOf_35 : decode cX0_rowOf 35 = .ok (.iconst (-1), 1) := by decide +kernel
theorem dX0_rowOf_36 : decode cX0_rowOf 36 = .ok (.ireturn, 1) := by decide +kernel
set_option maxRecDepth 20000 in
theorem m_X0_rowOf {h : Hp} {a1 : Int32} {a2 : Int32}  {u : Int32} (hu : f_X0_rowOf a1 a2 = some u) : Ct yX0_rowOf cX0_rowOf 3 (some .int) 2 [.int a1, .int a2] h ((rI h) u) := by
  refine ct_of (rI h) hu (by decide) (Nat.le_of_ble_eq_true rfl) (fun κ hn C E => ?_)
  have n2 : 2 < kn κ := by rw [hn]; decide
  unfold f_X0_rowOf
  show Xz κ _ 0 [(0, .int a1), (1, .int a2)] [] h
  refine x_iload_n 1 C dX0_rowOf_0 0 rfl rfl rfl ?_
  refine x_csi 4 [.int a1] [] C 1 dX0_rowOf_1 s_X0_28 (fun u hu => m_X7_isBeat hu) rfl rfl (Nat.le_of_ble_eq_true rfl) (Nat.le_of_ble_eq_true rfl) rfl (fun x1 => ?_)
  refine x_lt1 (q := 21) (ls := fun x2 => [(0, .int a1), (1, .int a2)]) (st := fun x2 => [.int x2]) (hh := fun x2 => h) (fun x2 => ?_) (fun k1 J1 => ?_)
  · refine x_istore_n 22 [(2, .int x2), (0, .int a1), (1, .int a2)] C dX0_rowOf_21 n2 rfl rfl rfl ?_
    refine x_iload_n 23 C dX0_rowOf_22 0 rfl rfl rfl ?_
    refine x_if_eq 26 35 C dX0_rowOf_23 (by decide) rfl (fun _ => ?_) (fun _ => ?_)
    · refine x_iconst 36 C dX0_rowOf_35 ci_m1 rfl ?_
      exact x_iret C E dX0_rowOf_36 rfl
    · refine x_iload_n 27 C dX0_rowOf_26 1 rfl rfl rfl ?_
      refine x_bipush 29 C dX0_rowOf_27 cb_6 rfl ?_
      refine x_imul 30 C dX0_rowOf_29 rfl ?_
      refine x_iload_n 31 C dX0_rowOf_30 2 rfl rfl rfl ?_
      refine x_iadd 32 C dX0_rowOf_31 rfl ?_
      refine x_goto 36 C dX0_rowOf_32 (by decide) ?_
      exact x_iret C E dX0_rowOf_36 rfl
  refine x_lt1 (q := 20) (ls := fun u3 => [(0, .int a1), (1, .int a2)]) (st := fun u3 => []) (hh := fun u3 => h) (fun u3 => ?_) (fun k2 J2 => ?_)
  · refine x_iconst 21 C dX0_rowOf_20 ci_0 rfl ?_
    exact x_ls [0, 1] rfl (J1 (0 : Int32))
  refine x_if_eq 7 20 C dX0_rowOf_4 (by decide) rfl (fun _ => ?_) (fun _ => ?_)
  · exact x_ls [0, 1] rfl (J2 (0 : Int32))
  · refine x_iload_n 8 C dX0_rowOf_7 1 rfl rfl rfl ?_
    refine x_iconst 9 C dX0_rowOf_8 ci_0 rfl ?_
    refine x_iconst 10 C dX0_rowOf_9 ci_5 rfl ?_
    refine x_csi 13 [.int a2, .int (0 : Int32), .int (5 : Int32)] [] C 0 dX0_rowOf_10 s_X0_35 (fun u hu => m_X7_within hu) rfl rfl (Nat.le_of_ble_eq_true rfl) (Nat.le_of_ble_eq_true rfl) rfl (fun x4 => ?_)
    refine x_if_eq 16 20 C dX0_rowOf_13 (by decide) rfl (fun _ => ?_) (fun _ => ?_)
    · exact x_ls [0, 1] rfl (J2 (0 : Int32))
    · refine x_iconst 17 C dX0_rowOf_16 ci_1 rfl ?_
      refine x_goto 21 C dX0_rowOf_17 (by decide) ?_
      exact x_ls [0, 1] rfl (J1 (1 : Int32))

def f_X0_note (h : Hp) (S : Nat) (a1 : Int32) (a2 : Int32) (a3 : Int32) (a4 : Int32) (a5 : Int32) : Option Hp :=
  bdr (f_X0_rowOf a1 a2) fun x1 =>
  if x1 = (-1 : Int32) then (
    some h)
  else (
    ck x1 144 (nm (ux h (S + 1) x1 a3) fun h2 =>
    ck x1 144 (nm (ux h2 (S + 2) x1 a4) fun h3 =>
    ck x1 144 (nm (ux h3 (S + 3) x1 a5) fun h4 =>
    some h4))))
theorem dX0_note_0 : decode cX0_note 0 = .ok (.iload_n 1, 1) := by decide +kernel
theorem dX0_note_1 : decode cX0_note 1 = .ok (.iload_n 2, 1) := by decide +kernel
theorem dX0_note_2 : decode cX0_note 2 = .ok (.invokestatic 24, 3) := by decide +kernel
theorem dX0_note_5 : decode cX0_note 5 = .ok (.istore 6, 2) := by decide +kernel
theorem dX0_note_7 : decode cX0_note 7 = .ok (.iload 6, 2) := by decide +kernel
theorem dX0_note_9 : decode cX0_note 9 = .ok (.iconst (-1), 1) := by decide +kernel
theorem dX0_note_10 : decode cX0_note 10 = .ok (.if_icmp .eq 29, 3) := by decide +kernel
theorem dX0_note_13 : decode cX0_note 13 = .ok (.aload_n 0, 1) := by decide +kernel
theorem dX0_note_14 : decode cX0_note 14 = .ok (.getfield 9, 3) := by decide +kernel
theorem dX0_note_17 : decode cX0_note 17 = .ok (.iload 6, 2) := by decide +kernel
theorem dX0_note_19 : decode cX0_note 19 = .ok (.iload_n 3, 1) := by decide +kernel
theorem dX0_note_20 : decode cX0_note 20 = .ok (.iastore, 1) := by decide +kernel
theorem dX0_note_21 : decode cX0_note 21 = .ok (.aload_n 0, 1) := by decide +kernel
theorem dX0_note_22 : decode cX0_note 22 = .ok (.getfield 15, 3) := by decide +kernel
theorem dX0_note_25 : decode cX0_note 25 = .ok (.iload 6, 2) := by decide +kernel
theorem dX0_note_27 : decode cX0_note 27 = .ok (.iload 4, 2) := by decide +kernel
theorem dX0_note_29 : decode cX0_note 29 = .ok (.iastore, 1) := by decide +kernel
theorem dX0_note_30 : decode cX0_note 30 = .ok (.aload_n 0, 1) := by decide +kernel
theorem dX0_note_31 : decode cX0_note 31 = .ok (.getfield 18, 3) := by decide +kernel
theorem dX0_note_34 : decode cX0_note 34 = .ok (.iload 6, 2) := by decide +kernel
theorem dX0_note_36 : decode cX0_note 36 = .ok (.iload 5, 2) := by decide +kernel
theorem dX0_note_38 : decode cX0_note 38 = .ok (.iastore, 1) := by decide +kernel
theorem dX0_note_39 : decode cX0_note 39 = .ok (.return_, 1) := by decide +kernel
set_option maxRecDepth 20000 in
theorem m_X0_note {h : Hp} {S : Nat} {a1 : Int32} {a2 : Int32} {a3 : Int32} {a4 : Int32} {a5 : Int32} (hS : sk S = 0) {u : Hp} (hu : f_X0_note h S a1 a2 a3 a4 a5 = some u) : Ct yX0_note cX0_note 7 none 3 [.ref S, .int a1, .int a2, .int a3, .int a4, .int a5] h (eV u) := by
  refine ct_of eV hu (by decide) (Nat.le_of_ble_eq_true rfl) (fun κ hn C E => ?_)
  have n6 : 6 < kn κ := by rw [hn]; decide
  unfold f_X0_note
  show Xz κ _ 0 [(0, .ref S), (1, .int a1), (2, .int a2), (3, .int a3), (4, .int a4), (5, .int a5)] [] h
  refine x_iload_n 1 C dX0_note_0 1 rfl rfl rfl ?_
  refine x_iload_n 2 C dX0_note_1 2 rfl rfl rfl ?_
  refine x_csi 5 [.int a1, .int a2] [] C 2 dX0_note_2 s_X0_24 (fun u hu => m_X0_rowOf hu) rfl rfl (Nat.le_of_ble_eq_true rfl) (Nat.le_of_ble_eq_true rfl) rfl (fun x1 => ?_)
  refine x_istore 7 [(6, .int x1), (0, .ref S), (1, .int a1), (2, .int a2), (3, .int a3), (4, .int a4), (5, .int a5)] C dX0_note_5 n6 rfl rfl ?_
  refine x_iload 9 C dX0_note_7 0 rfl rfl ?_
  refine x_iconst 10 C dX0_note_9 ci_m1 rfl ?_
  refine x_icmp_eq 13 39 C dX0_note_10 (by decide) rfl (fun _ => ?_) (fun _ => ?_)
  · exact x_vret C E dX0_note_39 rfl
  · refine x_aload_n 14 C dX0_note_13 1 rfl rfl rfl ?_
    refine x_getR (c := (S + 1)) 17 C dX0_note_14 fl_X0_9 hS rfl (of_0_0 hS) rfl ?_
    refine x_iload 19 C dX0_note_17 0 rfl rfl ?_
    refine x_iload_n 20 C dX0_note_19 4 rfl rfl rfl ?_
    refine x_iast 21 C dX0_note_20 (ok_0_0 hS) (ol_0_0 hS) rfl (fun h2 => ?_)
    refine x_aload_n 22 C dX0_note_21 1 rfl rfl rfl ?_
    refine x_getR (c := (S + 2)) 25 C dX0_note_22 fl_X0_15 hS rfl (of_0_1 hS) rfl ?_
    refine x_iload 27 C dX0_note_25 0 rfl rfl ?_
    refine x_iload 29 C dX0_note_27 5 rfl rfl ?_
    refine x_iast 30 C dX0_note_29 (ok_0_1 hS) (ol_0_1 hS) rfl (fun h3 => ?_)
    refine x_aload_n 31 C dX0_note_30 1 rfl rfl rfl ?_
    refine x_getR (c := (S + 3)) 34 C dX0_note_31 fl_X0_18 hS rfl (of_0_2 hS) rfl ?_
    refine x_iload 36 C dX0_note_34 0 rfl rfl ?_
    refine x_iload 38 C dX0_note_36 6 rfl rfl ?_
    refine x_iast 39 C dX0_note_38 (ok_0_2 hS) (ol_0_2 hS) rfl (fun h4 => ?_)
    exact x_vret C E dX0_note_39 rfl

def f_X0_noteSway (h : Hp) (S : Nat) (a1 : Int32) (a2 : Int32) : Option Hp :=
  bdr (f_X7_isBeat a1) fun x1 =>
  if x1 = 0 then (
    some h)
  else (
    ck a1 24 (nm (ux h (S + 4) a1 a2) fun h2 =>
    some h2))
theorem dX0_noteSway_0 : decode cX0_noteSway 0 = .ok (.iload_n 1, 1) := by decide +kernel
theorem dX0_noteSway_1 : decode cX0_noteSway 1 = .ok (.invokestatic 28, 3) := by decide +kernel
theorem dX0_noteSway_4 : decode cX0_noteSway 4 = .ok (.ifCond .eq 10, 3) := by decide +kernel
theorem dX0_noteSway_7 : decode cX0_noteSway 7 = .ok (.aload_n 0, 1) := by decide +kernel
theorem dX0_noteSway_8 : decode cX0_noteSway 8 = .ok (.getfield 21, 3) := by decide +kernel
theorem dX0_noteSway_11 : decode cX0_noteSway 11 = .ok (.iload_n 1, 1) := by decide +kernel
theorem dX0_noteSway_12 : decode cX0_noteSway 12 = .ok (.iload_n 2, 1) := by decide +kernel
theorem dX0_noteSway_13 : decode cX0_noteSway 13 = .ok (.iastore, 1) := by decide +kernel
theorem dX0_noteSway_14 : decode cX0_noteSway 14 = .ok (.return_, 1) := by decide +kernel
set_option maxRecDepth 20000 in
theorem m_X0_noteSway {h : Hp} {S : Nat} {a1 : Int32} {a2 : Int32} (hS : sk S = 0) {u : Hp} (hu : f_X0_noteSway h S a1 a2 = some u) : Ct yX0_noteSway cX0_noteSway 3 none 2 [.ref S, .int a1, .int a2] h (eV u) := by
  refine ct_of eV hu (by decide) (Nat.le_of_ble_eq_true rfl) (fun κ hn C E => ?_)
  unfold f_X0_noteSway
  show Xz κ _ 0 [(0, .ref S), (1, .int a1), (2, .int a2)] [] h
  refine x_iload_n 1 C dX0_noteSway_0 1 rfl rfl rfl ?_
  refine x_csi 4 [.int a1] [] C 1 dX0_noteSway_1 s_X0_28 (fun u hu => m_X7_isBeat hu) rfl rfl (Nat.le_of_ble_eq_true rfl) (Nat.le_of_ble_eq_true rfl) rfl (fun x1 => ?_)
  refine x_if_eq 7 14 C dX0_noteSway_4 (by decide) rfl (fun _ => ?_) (fun _ => ?_)
  · exact x_vret C E dX0_noteSway_14 rfl
  · refine x_aload_n 8 C dX0_noteSway_7 0 rfl rfl rfl ?_
    refine x_getR (c := (S + 4)) 11 C dX0_noteSway_8 fl_X0_21 hS rfl (of_0_3 hS) rfl ?_
    refine x_iload_n 12 C dX0_noteSway_11 1 rfl rfl rfl ?_
    refine x_iload_n 13 C dX0_noteSway_12 2 rfl rfl rfl ?_
    refine x_iast 14 C dX0_noteSway_13 (ok_0_3 hS) (ol_0_3 hS) rfl (fun h2 => ?_)
    exact x_vret C E dX0_noteSway_14 rfl

def f_X0_stateBehind (h : Hp) (S : Nat) (a1 : Int32) (a2 : Int32) : Option Int32 :=
  bdr (f_X0_rowOf a1 a2) fun x1 =>
  if x1 = (-1 : Int32) then (
    some (0 : Int32))
  else (
    ck x1 144 (
      some (ia h (S + 1) x1)))
theorem dX0_stateBehind_0 : decode cX0_stateBehind 0 = .ok (.iload_n 1, 1) := by decide +kernel
theorem dX0_stateBehind_1 : decode cX0_stateBehind 1 = .ok (.iload_n 2, 1) := by decide +kernel
theorem dX0_stateBehind_2 : decode cX0_stateBehind 2 = .ok (.invokestatic 24, 3) := by decide +kernel
theorem dX0_stateBehind_5 : decode cX0_stateBehind 5 = .ok (.istore_n 3, 1) := by decide +kernel
theorem dX0_stateBehind_6 : decode cX0_stateBehind 6 = .ok (.iload_n 3, 1) := by decide +kernel
theorem dX0_stateBehind_7 : decode cX0_stateBehind 7 = .ok (.iconst (-1), 1) := by decide +kernel
theorem dX0_stateBehind_8 : decode cX0_stateBehind 8 = .ok (.if_icmp .ne 7, 3) := by decide +kernel
theorem dX0_stateBehind_11 : decode cX0_stateBehind 11 = .ok (.iconst 0, 1) := by decide +kernel
theorem dX0_stateBehind_12 : decode cX0_stateBehind 12 = .ok (.goto 9, 3) := by decide +kernel
theorem dX0_stateBehind_15 : decode cX0_stateBehind 15 = .ok (.aload_n 0, 1) := by decide +kernel
theorem dX0_stateBehind_16 : decode cX0_stateBehind 16 = .ok (.getfield 9, 3) := by decide +kernel
theorem dX0_stateBehind_19 : decode cX0_stateBehind 19 = .ok (.iload_n 3, 1) := by decide +kernel
theorem dX0_stateBehind_20 : decode cX0_stateBehind 20 = .ok (.iaload, 1) := by decide +kernel
theorem dX0_stateBehind_21 : decode cX0_stateBehind 21 = .ok (.ireturn, 1) := by decide +kernel
set_option maxRecDepth 20000 in
theorem m_X0_stateBehind {h : Hp} {S : Nat} {a1 : Int32} {a2 : Int32} (hS : sk S = 0) {u : Int32} (hu : f_X0_stateBehind h S a1 a2 = some u) : Ct yX0_stateBehind cX0_stateBehind 4 (some .int) 3 [.ref S, .int a1, .int a2] h ((rI h) u) := by
  refine ct_of (rI h) hu (by decide) (Nat.le_of_ble_eq_true rfl) (fun κ hn C E => ?_)
  have n3 : 3 < kn κ := by rw [hn]; decide
  unfold f_X0_stateBehind
  show Xz κ _ 0 [(0, .ref S), (1, .int a1), (2, .int a2)] [] h
  refine x_iload_n 1 C dX0_stateBehind_0 1 rfl rfl rfl ?_
  refine x_iload_n 2 C dX0_stateBehind_1 2 rfl rfl rfl ?_
  refine x_csi 5 [.int a1, .int a2] [] C 2 dX0_stateBehind_2 s_X0_24 (fun u hu => m_X0_rowOf hu) rfl rfl (Nat.le_of_ble_eq_true rfl) (Nat.le_of_ble_eq_true rfl) rfl (fun x1 => ?_)
  refine x_istore_n 6 [(3, .int x1), (0, .ref S), (1, .int a1), (2, .int a2)] C dX0_stateBehind_5 n3 rfl rfl rfl ?_
  refine x_iload_n 7 C dX0_stateBehind_6 0 rfl rfl rfl ?_
  refine x_iconst 8 C dX0_stateBehind_7 ci_m1 rfl ?_
  refine x_icmp_ne 11 15 C dX0_stateBehind_8 (by decide) rfl (fun _ => ?_) (fun _ => ?_)
  · refine x_aload_n 16 C dX0_stateBehind_15 1 rfl rfl rfl ?_
    refine x_getR (c := (S + 1)) 19 C dX0_stateBehind_16 fl_X0_9 hS rfl (of_0_0 hS) rfl ?_
    refine x_iload_n 20 C dX0_stateBehind_19 0 rfl rfl rfl ?_
    refine x_iald 21 C dX0_stateBehind_20 (ok_0_0 hS) (ol_0_0 hS) rfl ?_
    exact x_iret C E dX0_stateBehind_21 rfl
  · refine x_iconst 12 C dX0_stateBehind_11 ci_0 rfl ?_
    refine x_goto 21 C dX0_stateBehind_12 (by decide) ?_
    exact x_iret C E dX0_stateBehind_21 rfl

def f_X0_placeBehind (h : Hp) (S : Nat) (a1 : Int32) (a2 : Int32) : Option Int32 :=
  bdr (f_X0_rowOf a1 a2) fun x1 =>
  if x1 = (-1 : Int32) then (
    some (-1 : Int32))
  else (
    ck x1 144 (
      some (ia h (S + 2) x1)))
theorem dX0_placeBehind_0 : decode cX0_placeBehind 0 = .ok (.iload_n 1, 1) := by decide +kernel
theorem dX0_placeBehind_1 : decode cX0_placeBehind 1 = .ok (.iload_n 2, 1) := by decide +kernel
theorem dX0_placeBehind_2 : decode cX0_placeBehind 2 = .ok (.invokestatic 24, 3) := by decide +kernel
theorem dX0_placeBehind_5 : decode cX0_placeBehind 5 = .ok (.istore_n 3, 1) := by decide +kernel
theorem dX0_placeBehind_6 : decode cX0_placeBehind 6 = .ok (.iload_n 3, 1) := by decide +kernel
theorem dX0_placeBehind_7 : decode cX0_placeBehind 7 = .ok (.iconst (-1), 1) := by decide +kernel
theorem dX0_placeBehind_8 : decode cX0_placeBehind 8 = .ok (.if_icmp .ne 7, 3) := by decide +kernel
theorem dX0_placeBehind_11 : decode cX0_placeBehind 11 = .ok (.iconst (-1), 1) := by decide +kernel
theorem dX0_placeBehind_12 : decode cX0_placeBehind 12 = .ok (.goto 9, 3) := by decide +kernel
theorem dX0_placeBehind_15 : decode cX0_placeBehind 15 = .ok (.aload_n 0, 1) := by decide +kernel
theorem dX0_placeBehind_16 : decode cX0_placeBehind 16 = .ok (.getfield 15, 3) := by decide +kernel
theorem dX0_placeBehind_19 : decode cX0_placeBehind 19 = .ok (.iload_n 3, 1) := by decide +kernel
theorem dX0_placeBehind_20 : decode cX0_placeBehind 20 = .ok (.iaload, 1) := by decide +kernel
theorem dX0_placeBehind_21 : decode cX0_placeBehind 21 = .ok (.ireturn, 1) := by decide +kernel
set_option maxRecDepth 20000 in
theorem m_X0_placeBehind {h : Hp} {S : Nat} {a1 : Int32} {a2 : Int32} (hS : sk S = 0) {u : Int32} (hu : f_X0_placeBehind h S a1 a2 = some u) : Ct yX0_placeBehind cX0_placeBehind 4 (some .int) 3 [.ref S, .int a1, .int a2] h ((rI h) u) := by
  refine ct_of (rI h) hu (by decide) (Nat.le_of_ble_eq_true rfl) (fun κ hn C E => ?_)
  have n3 : 3 < kn κ := by rw [hn]; decide
  unfold f_X0_placeBehind
  show Xz κ _ 0 [(0, .ref S), (1, .int a1), (2, .int a2)] [] h
  refine x_iload_n 1 C dX0_placeBehind_0 1 rfl rfl rfl ?_
  refine x_iload_n 2 C dX0_placeBehind_1 2 rfl rfl rfl ?_
  refine x_csi 5 [.int a1, .int a2] [] C 2 dX0_placeBehind_2 s_X0_24 (fun u hu => m_X0_rowOf hu) rfl rfl (Nat.le_of_ble_eq_true rfl) (Nat.le_of_ble_eq_true rfl) rfl (fun x1 => ?_)
  refine x_istore_n 6 [(3, .int x1), (0, .ref S), (1, .int a1), (2, .int a2)] C dX0_placeBehind_5 n3 rfl rfl rfl ?_
  refine x_iload_n 7 C dX0_placeBehind_6 0 rfl rfl rfl ?_
  refine x_iconst 8 C dX0_placeBehind_7 ci_m1 rfl ?_
  refine x_icmp_ne 11 15 C dX0_placeBehind_8 (by decide) rfl (fun _ => ?_) (fun _ => ?_)
  · refine x_aload_n 16 C dX0_placeBehind_15 1 rfl rfl rfl ?_
    refine x_getR (c := (S + 2)) 19 C dX0_placeBehind_16 fl_X0_15 hS rfl (of_0_1 hS) rfl ?_
    refine x_iload_n 20 C dX0_placeBehind_19 0 rfl rfl rfl ?_
    refine x_iald 21 C dX0_placeBehind_20 (ok_0_1 hS) (ol_0_1 hS) rfl ?_
    exact x_iret C E dX0_placeBehind_21 rfl
  · refine x_iconst 12 C dX0_placeBehind_11 ci_m1 rfl ?_
    refine x_goto 21 C dX0_placeBehind_12 (by decide) ?_
    exact x_iret C E dX0_placeBehind_21 rfl

def f_X0_leanBehind (h : Hp) (S : Nat) (a1 : Int32) (a2 : Int32) : Option Int32 :=
  bdr (f_X0_rowOf a1 a2) fun x1 =>
  if x1 = (-1 : Int32) then (
    some (0 : Int32))
  else (
    ck x1 144 (
      some (ia h (S + 3) x1)))
theorem dX0_leanBehind_0 : decode cX0_leanBehind 0 = .ok (.iload_n 1, 1) := by decide +kernel
theorem dX0_leanBehind_1 : decode cX0_leanBehind 1 = .ok (.iload_n 2, 1) := by decide +kernel
theorem dX0_leanBehind_2 : decode cX0_leanBehind 2 = .ok (.invokestatic 24, 3) := by decide +kernel
theorem dX0_leanBehind_5 : decode cX0_leanBehind 5 = .ok (.istore_n 3, 1) := by decide +kernel
theorem dX0_leanBehind_6 : decode cX0_leanBehind 6 = .ok (.iload_n 3, 1) := by decide +kernel
theorem dX0_leanBehind_7 : decode cX0_leanBehind 7 = .ok (.iconst (-1), 1) := by decide +kernel
theorem dX0_leanBehind_8 : decode cX0_leanBehind 8 = .ok (.if_icmp .ne 7, 3) := by decide +kernel
theorem dX0_leanBehind_11 : decode cX0_leanBehind 11 = .ok (.iconst 0, 1) := by decide +kernel
theorem dX0_leanBehind_12 : decode cX0_leanBehind 12 = .ok (.goto 9, 3) := by decide +kernel
theorem dX0_leanBehind_15 : decode cX0_leanBehind 15 = .ok (.aload_n 0, 1) := by decide +kernel
theorem dX0_leanBehind_16 : decode cX0_leanBehind 16 = .ok (.getfield 18, 3) := by decide +kernel
theorem dX0_leanBehind_19 : decode cX0_leanBehind 19 = .ok (.iload_n 3, 1) := by decide +kernel
theorem dX0_leanBehind_20 : decode cX0_leanBehind 20 = .ok (.iaload, 1) := by decide +kernel
theorem dX0_leanBehind_21 : decode cX0_leanBehind 21 = .ok (.ireturn, 1) := by decide +kernel
set_option maxRecDepth 20000 in
theorem m_X0_leanBehind {h : Hp} {S : Nat} {a1 : Int32} {a2 : Int32} (hS : sk S = 0) {u : Int32} (hu : f_X0_leanBehind h S a1 a2 = some u) : Ct yX0_leanBehind cX0_leanBehind 4 (some .int) 3 [.ref S, .int a1, .int a2] h ((rI h) u) := by
  refine ct_of (rI h) hu (by decide) (Nat.le_of_ble_eq_true rfl) (fun κ hn C E => ?_)
  have n3 : 3 < kn κ := by rw [hn]; decide
  unfold f_X0_leanBehind
  show Xz κ _ 0 [(0, .ref S), (1, .int a1), (2, .int a2)] [] h
  refine x_iload_n 1 C dX0_leanBehind_0 1 rfl rfl rfl ?_
  refine x_iload_n 2 C dX0_leanBehind_1 2 rfl rfl rfl ?_
  refine x_csi 5 [.int a1, .int a2] [] C 2 dX0_leanBehind_2 s_X0_24 (fun u hu => m_X0_rowOf hu) rfl rfl (Nat.le_of_ble_eq_true rfl) (Nat.le_of_ble_eq_true rfl) rfl (fun x1 => ?_)
  refine x_istore_n 6 [(3, .int x1), (0, .ref S), (1, .int a1), (2, .int a2)] C dX0_leanBehind_5 n3 rfl rfl rfl ?_
  refine x_iload_n 7 C dX0_leanBehind_6 0 rfl rfl rfl ?_
  refine x_iconst 8 C dX0_leanBehind_7 ci_m1 rfl ?_
  refine x_icmp_ne 11 15 C dX0_leanBehind_8 (by decide) rfl (fun _ => ?_) (fun _ => ?_)
  · refine x_aload_n 16 C dX0_leanBehind_15 1 rfl rfl rfl ?_
    refine x_getR (c := (S + 3)) 19 C dX0_leanBehind_16 fl_X0_18 hS rfl (of_0_2 hS) rfl ?_
    refine x_iload_n 20 C dX0_leanBehind_19 0 rfl rfl rfl ?_
    refine x_iald 21 C dX0_leanBehind_20 (ok_0_2 hS) (ol_0_2 hS) rfl ?_
    exact x_iret C E dX0_leanBehind_21 rfl
  · refine x_iconst 12 C dX0_leanBehind_11 ci_0 rfl ?_
    refine x_goto 21 C dX0_leanBehind_12 (by decide) ?_
    exact x_iret C E dX0_leanBehind_21 rfl

def f_X0_markOfPlaces (h : Hp) (S : Nat) (a1 : Int32) (a2 : Int32) : Option Int64 :=
  fx2 FU (fun s1 (l1 : Int64) (x2 : Int32) =>
    if a2 ≤ x2 then (
      some l1)
    else (
      bdr (f_X0_placeBehind h S a1 x2) fun x3 =>
      nm ((l1 <<< ((6 : Int32).toInt64 &&& 63)) ||| ((x3 + (1 : Int32)).toInt64)) fun l4 =>
      nm (x2 + (1 : Int32)) fun x5 =>
      s1 l4 x5)) (0 : Int64) (0 : Int32)
theorem dX0_markOfPlaces_0 : decode cX0_markOfPlaces 0 = .ok (.lconst 0, 1) := by decide +kernel
theorem dX0_markOfPlaces_1 : decode cX0_markOfPlaces 1 = .ok (.lstore_n 3, 1) := by decide +kernel
theorem dX0_markOfPlaces_2 : decode cX0_markOfPlaces 2 = .ok (.iconst 0, 1) := by decide +kernel
theorem dX0_markOfPlaces_3 : decode cX0_markOfPlaces 3 = .ok (.istore 5, 2) := by decide +kernel
theorem dX0_markOfPlaces_5 : decode cX0_markOfPlaces 5 = .ok (.iload 5, 2) := by decide +kernel
theorem dX0_markOfPlaces_7 : decode cX0_markOfPlaces 7 = .ok (.iload_n 2, 1) := by decide +kernel
theorem dX0_markOfPlaces_8 : decode cX0_markOfPlaces 8 = .ok (.if_icmp .ge 25, 3) := by decide +kernel
theorem dX0_markOfPlaces_11 : decode cX0_markOfPlaces 11 = .ok (.lload_n 3, 1) := by decide +kernel
theorem dX0_markOfPlaces_12 : decode cX0_markOfPlaces 12 = .ok (.bipush 6, 2) := by decide +kernel
theorem dX0_markOfPlaces_14 : decode cX0_markOfPlaces 14 = .ok (.lshl, 1) := by decide +kernel
theorem dX0_markOfPlaces_15 : decode cX0_markOfPlaces 15 = .ok (.aload_n 0, 1) := by decide +kernel
theorem dX0_markOfPlaces_16 : decode cX0_markOfPlaces 16 = .ok (.iload_n 1, 1) := by decide +kernel
theorem dX0_markOfPlaces_17 : decode cX0_markOfPlaces 17 = .ok (.iload 5, 2) := by decide +kernel
theorem dX0_markOfPlaces_19 : decode cX0_markOfPlaces 19 = .ok (.invokevirtual 32, 3) := by decide +kernel
theorem dX0_markOfPlaces_22 : decode cX0_markOfPlaces 22 = .ok (.iconst 1, 1) := by decide +kernel
theorem dX0_markOfPlaces_23 : decode cX0_markOfPlaces 23 = .ok (.iadd, 1) := by decide +kernel
theorem dX0_markOfPlaces_24 : decode cX0_markOfPlaces 24 = .ok (.i2l, 1) := by decide +kernel
theorem dX0_markOfPlaces_25 : decode cX0_markOfPlaces 25 = .ok (.lor, 1) := by decide +kernel
theorem dX0_markOfPlaces_26 : decode cX0_markOfPlaces 26 = .ok (.lstore_n 3, 1) := by decide +kernel
theorem dX0_markOfPlaces_27 : decode cX0_markOfPlaces 27 = .ok (.iinc 5 1, 3) := by decide +kernel
theorem dX0_markOfPlaces_30 : decode cX0_markOfPlaces 30 = .ok (.goto (-25), 3) := by decide +kernel
theorem dX0_markOfPlaces_33 : decode cX0_markOfPlaces 33 = .ok (.lload_n 3, 1) := by decide +kernel
theorem dX0_markOfPlaces_34 : decode cX0_markOfPlaces 34 = .ok (.lreturn, 1) := by decide +kernel
set_option maxRecDepth 20000 in
theorem m_X0_markOfPlaces {h : Hp} {S : Nat} {a1 : Int32} {a2 : Int32} (hS : sk S = 0) {u : Int64} (hu : f_X0_markOfPlaces h S a1 a2 = some u) : Ct yX0_markOfPlaces cX0_markOfPlaces 6 (some .long) 4 [.ref S, .int a1, .int a2] h ((rL h) u) := by
  refine ct_of (rL h) hu (by decide) (Nat.le_of_ble_eq_true rfl) (fun κ hn C E => ?_)
  have n4 : 4 < kn κ := by rw [hn]; decide
  have n5 : 5 < kn κ := by rw [hn]; decide
  unfold f_X0_markOfPlaces
  show Xz κ _ 0 [(0, .ref S), (1, .int a1), (2, .int a2)] [] h
  refine x_lconst 1 C dX0_markOfPlaces_0 cl_0 rfl ?_
  refine x_lstore_n 2 [(3, .long (0 : Int64)), (0, .ref S), (1, .int a1), (2, .int a2)] C dX0_markOfPlaces_1 n4 rfl rfl rfl ?_
  refine x_iconst 3 C dX0_markOfPlaces_2 ci_0 rfl ?_
  refine x_istore 5 [(5, .int (0 : Int32)), (3, .long (0 : Int64)), (0, .ref S), (1, .int a1), (2, .int a2)] C dX0_markOfPlaces_3 n5 rfl rfl ?_
  refine x_ls [2, 3, 4, 1, 0] rfl (x_fx2 (ls := fun l1 x2 => [(0, .ref S), (1, .int a1), (2, .int a2), (3, .long l1), (5, .int x2)]) (st := fun l1 x2 => []) (hh := fun l1 x2 => h) (fun s1 J1 l1 x2 => ?_))
  refine x_iload 7 C dX0_markOfPlaces_5 4 rfl rfl ?_
  refine x_iload_n 8 C dX0_markOfPlaces_7 2 rfl rfl rfl ?_
  refine x_icmp_ge 11 33 C dX0_markOfPlaces_8 (by decide) rfl (fun _ => ?_) (fun _ => ?_)
  · refine x_lload_n 34 C dX0_markOfPlaces_33 3 rfl rfl rfl ?_
    exact x_lret C E dX0_markOfPlaces_34 rfl
  · refine x_lload_n 12 C dX0_markOfPlaces_11 3 rfl rfl rfl ?_
    refine x_bipush 14 C dX0_markOfPlaces_12 cb_6 rfl ?_
    refine x_lshl 15 C dX0_markOfPlaces_14 rfl ?_
    refine x_aload_n 16 C dX0_markOfPlaces_15 0 rfl rfl rfl ?_
    refine x_iload_n 17 C dX0_markOfPlaces_16 1 rfl rfl rfl ?_
    refine x_iload 19 C dX0_markOfPlaces_17 4 rfl rfl ?_
    refine x_cvi 22 [.int a1, .int x2] [.long (l1 <<< ((6 : Int32).toInt64 &&& 63))] C 3 dX0_markOfPlaces_19 v_X0_32 (fun u hu => m_X0_placeBehind hS hu) rfl hS rfl (Nat.le_of_ble_eq_true rfl) (Nat.le_of_ble_eq_true rfl) rfl (fun x3 => ?_)
    refine x_iconst 23 C dX0_markOfPlaces_22 ci_1 rfl ?_
    refine x_iadd 24 C dX0_markOfPlaces_23 rfl ?_
    refine x_i2l 25 C dX0_markOfPlaces_24 rfl ?_
    refine x_lor 26 C dX0_markOfPlaces_25 rfl ?_
    refine x_nl (fun l4 => ?_)
    refine x_lstore_n 27 [(3, .long l4), (0, .ref S), (1, .int a1), (2, .int a2), (5, .int x2)] C dX0_markOfPlaces_26 n4 rfl rfl rfl ?_
    refine x_iinc 30 (fun x5 => [(5, .int x5), (3, .long l4), (0, .ref S), (1, .int a1), (2, .int a2)]) C dX0_markOfPlaces_27 4 rfl ci_1 n5 (fun _ => rfl) rfl (fun x5 => ?_)
    refine x_goto 5 C dX0_markOfPlaces_30 (by decide) ?_
    exact x_ls [2, 3, 4, 1, 0] rfl (J1 l4 x5)

def f_X1_makeNew (h : Hp) (S : Nat) (a1 : Int32) (a2 : Int32) : Option Hp :=
  bdv (f_J7_fill_53178 h (S + 1) (0 : Int32)) fun h1 =>
  nm (uf h1 S 1 (0 : Int32)) fun h2 =>
  nm (uf h2 S 2 a1) fun h3 =>
  nm (uf h3 S 3 (jmax (0 : Int32) (jmin a2 (60 : Int32)))) fun h4 =>
  some h4
theorem dX1_makeNew_0 : decode cX1_makeNew 0 = .ok (.aload_n 0, 1) := by decide +kernel
theorem dX1_makeNew_1 : decode cX1_makeNew 1 = .ok (.getfield 9, 3) := by decide +kernel
theorem dX1_makeNew_4 : decode cX1_makeNew 4 = .ok (.iconst 0, 1) := by decide +kernel
theorem dX1_makeNew_5 : decode cX1_makeNew 5 = .ok (.invokestatic 26, 3) := by decide +kernel
theorem dX1_makeNew_8 : decode cX1_makeNew 8 = .ok (.aload_n 0, 1) := by decide +kernel
theorem dX1_makeNew_9 : decode cX1_makeNew 9 = .ok (.iconst 0, 1) := by decide +kernel
theorem dX1_makeNew_10 : decode cX1_makeNew 10 = .ok (.putfield 15, 3) := by decide +kernel
theorem dX1_makeNew_13 : decode cX1_makeNew 13 = .ok (.aload_n 0, 1) := by decide +kernel
theorem dX1_makeNew_14 : decode cX1_makeNew 14 = .ok (.iload_n 1, 1) := by decide +kernel
theorem dX1_makeNew_15 : decode cX1_makeNew 15 = .ok (.putfield 19, 3) := by decide +kernel
theorem dX1_makeNew_18 : decode cX1_makeNew 18 = .ok (.aload_n 0, 1) := by decide +kernel
theorem dX1_makeNew_19 : decode cX1_makeNew 19 = .ok (.iconst 0, 1) := by decide +kernel
theorem dX1_makeNew_20 : decode cX1_makeNew 20 = .ok (.iload_n 2, 1) := by decide +kernel
theorem dX1_makeNew_21 : decode cX1_makeNew 21 = .ok (.bipush 60, 2) := by decide +kernel
theorem dX1_makeNew_23 : decode cX1_makeNew 23 = .ok (.invokestatic 32, 3) := by decide +kernel
theorem dX1_makeNew_26 : decode cX1_makeNew 26 = .ok (.invokestatic 38, 3) := by decide +kernel
theorem dX1_makeNew_29 : decode cX1_makeNew 29 = .ok (.putfield 23, 3) := by decide +kernel
theorem dX1_makeNew_32 : decode cX1_makeNew 32 = .ok (.return_, 1) := by decide +kernel
set_option maxRecDepth 20000 in
theorem m_X1_makeNew {h : Hp} {S : Nat} {a1 : Int32} {a2 : Int32} (hS : sk S = 1) {u : Hp} (hu : f_X1_makeNew h S a1 a2 = some u) : Ct yX1_makeNew cX1_makeNew 3 none 1 [.ref S, .int a1, .int a2] h (eV u) := by
  refine ct_of eV hu (by decide) (Nat.le_of_ble_eq_true rfl) (fun κ hn C E => ?_)
  unfold f_X1_makeNew
  show Xz κ _ 0 [(0, .ref S), (1, .int a1), (2, .int a2)] [] h
  refine x_aload_n 1 C dX1_makeNew_0 0 rfl rfl rfl ?_
  refine x_getR (c := (S + 1)) 4 C dX1_makeNew_1 fl_X1_9 hS rfl (of_1_0 hS) rfl ?_
  refine x_iconst 5 C dX1_makeNew_4 ci_0 rfl ?_
  refine x_csV 8 [.ref (S + 1), .int (0 : Int32)] [] C 0 dX1_makeNew_5 s_X1_26 (fun u hu => m_J7_fill_53178 (ok_1_0 hS) hu) rfl rfl (Nat.le_of_ble_eq_true rfl) (Nat.le_of_ble_eq_true rfl) rfl (fun h1 => ?_)
  refine x_aload_n 9 C dX1_makeNew_8 0 rfl rfl rfl ?_
  refine x_iconst 10 C dX1_makeNew_9 ci_0 rfl ?_
  refine x_put 13 C dX1_makeNew_10 fp_X1_15 hS rfl rfl rfl rfl (fun h2 => ?_)
  refine x_aload_n 14 C dX1_makeNew_13 0 rfl rfl rfl ?_
  refine x_iload_n 15 C dX1_makeNew_14 1 rfl rfl rfl ?_
  refine x_put 18 C dX1_makeNew_15 fp_X1_19 hS rfl rfl rfl rfl (fun h3 => ?_)
  refine x_aload_n 19 C dX1_makeNew_18 0 rfl rfl rfl ?_
  refine x_iconst 20 C dX1_makeNew_19 ci_0 rfl ?_
  refine x_iload_n 21 C dX1_makeNew_20 2 rfl rfl rfl ?_
  refine x_bipush 23 C dX1_makeNew_21 cb_60 rfl ?_
  refine x_mmin 26 C dX1_makeNew_23 mw_X1_32 w_st_min w_in_Math w_co_min (Nat.le_of_ble_eq_true rfl) (Nat.le_of_ble_eq_true rfl) rfl ?_
  refine x_mmax 29 C dX1_makeNew_26 mw_X1_38 w_st_max w_in_Math w_co_max (Nat.le_of_ble_eq_true rfl) (Nat.le_of_ble_eq_true rfl) rfl ?_
  refine x_put 32 C dX1_makeNew_29 fp_X1_23 hS rfl rfl rfl rfl (fun h4 => ?_)
  exact x_vret C E dX1_makeNew_32 rfl

def f_X1_fitted (h : Hp) (S : Nat) (a1 : Int32) : Option Int32 :=
  if (h.1 S 2) = 0 then (
    some (a1.toInt8.toInt32))
  else (
    if (h.1 S 2) = (1 : Int32) then (
      some (a1.toInt16.toInt32))
    else (
      some a1))
theorem dX1_fitted_0 : decode cX1_fitted 0 = .ok (.aload_n 0, 1) := by decide +kernel
theorem dX1_fitted_1 : decode cX1_fitted 1 = .ok (.getfield 19, 3) := by decide +kernel
theorem dX1_fitted_4 : decode cX1_fitted 4 = .ok (.ifCond .ne 6, 3) := by decide +kernel
theorem dX1_fitted_7 : decode cX1_fitted 7 = .ok (.iload_n 1, 1) := by decide +kernel
theorem dX1_fitted_8 : decode cX1_fitted 8 = .ok (.i2b, 1) := by decide +kernel
theorem dX1_fitted_9 : decode cX1_fitted 9 = .ok (.ireturn, 1) := by decide +kernel
theorem dX1_fitted_10 : decode cX1_fitted 10 = .ok (.aload_n 0, 1) := by decide +kernel
theorem dX1_fitted_11 : decode cX1_fitted 11 = .ok (.getfield 19, 3) := by decide +kernel
theorem dX1_fitted_14 : decode cX1_fitted 14 = .ok (.iconst 1, 1) := by decide +kernel
theorem dX1_fitted_15 : decode cX1_fitted 15 = .ok (.if_icmp .ne 8, 3) := by decide +kernel
theorem dX1_fitted_18 : decode cX1_fitted 18 = .ok (.iload_n 1, 1) := by decide +kernel
theorem dX1_fitted_19 : decode cX1_fitted 19 = .ok (.i2s, 1) := by decide +kernel
theorem dX1_fitted_20 : decode cX1_fitted 20 = .ok (.goto 4, 3) := by decide +kernel
theorem dX1_fitted_23 : decode cX1_fitted 23 = .ok (.iload_n 1, 1) := by decide +kernel
theorem dX1_fitted_24 : decode cX1_fitted 24 = .ok (.ireturn, 1) := by decide +kernel
set_option maxRecDepth 20000 in
theorem m_X1_fitted {h : Hp} {S : Nat} {a1 : Int32} (hS : sk S = 1) {u : Int32} (hu : f_X1_fitted h S a1 = some u) : Ct yX1_fitted cX1_fitted 2 (some .int) 0 [.ref S, .int a1] h ((rI h) u) := by
  refine ct_of (rI h) hu (by decide) (Nat.le_of_ble_eq_true rfl) (fun κ hn C E => ?_)
  unfold f_X1_fitted
  show Xz κ _ 0 [(0, .ref S), (1, .int a1)] [] h
  refine x_aload_n 1 C dX1_fitted_0 0 rfl rfl rfl ?_
  refine x_getI 4 C dX1_fitted_1 fl_X1_19 hS rfl rfl ?_
  refine x_if_ne 7 10 C dX1_fitted_4 (by decide) rfl (fun _ => ?_) (fun _ => ?_)
  · refine x_aload_n 11 C dX1_fitted_10 0 rfl rfl rfl ?_
    refine x_getI 14 C dX1_fitted_11 fl_X1_19 hS rfl rfl ?_
    refine x_iconst 15 C dX1_fitted_14 ci_1 rfl ?_
    refine x_icmp_ne 18 23 C dX1_fitted_15 (by decide) rfl (fun _ => ?_) (fun _ => ?_)
    · refine x_iload_n 24 C dX1_fitted_23 1 rfl rfl rfl ?_
      exact x_iret C E dX1_fitted_24 rfl
    · refine x_iload_n 19 C dX1_fitted_18 1 rfl rfl rfl ?_
      refine x_i2s 20 C dX1_fitted_19 rfl ?_
      refine x_goto 24 C dX1_fitted_20 (by decide) ?_
      exact x_iret C E dX1_fitted_24 rfl
  · refine x_iload_n 8 C dX1_fitted_7 1 rfl rfl rfl ?_
    refine x_i2b 9 C dX1_fitted_8 rfl ?_
    exact x_iret C E dX1_fitted_9 rfl

def f_X1_put (h : Hp) (S : Nat) (a1 : Int32) (a2 : Int32) : Option Hp :=
  if a1 < 0 then (
    some h)
  else (
    if (h.1 S 3) ≤ a1 then (
      some h)
    else (
      if (60 : Int32) ≤ a1 then (
        some h)
      else (
        bdr (f_X1_fitted h S a2) fun x1 =>
        ck a1 60 (nm (ux h (S + 1) a1 x1) fun h2 =>
        some h2))))
theorem dX1_put_0 : decode cX1_put 0 = .ok (.iload_n 1, 1) := by decide +kernel
theorem dX1_put_1 : decode cX1_put 1 = .ok (.ifCond .lt 28, 3) := by decide +kernel
theorem dX1_put_4 : decode cX1_put 4 = .ok (.iload_n 1, 1) := by decide +kernel
theorem dX1_put_5 : decode cX1_put 5 = .ok (.aload_n 0, 1) := by decide +kernel
theorem dX1_put_6 : decode cX1_put 6 = .ok (.getfield 23, 3) := by decide +kernel
theorem dX1_put_9 : decode cX1_put 9 = .ok (.if_icmp .ge 20, 3) := by decide +kernel
theorem dX1_put_12 : decode cX1_put 12 = .ok (.iload_n 1, 1) := by decide +kernel
theorem dX1_put_13 : decode cX1_put 13 = .ok (.bipush 60, 2) := by decide +kernel
theorem dX1_put_15 : decode cX1_put 15 = .ok (.if_icmp .ge 14, 3) := by decide +kernel
theorem dX1_put_18 : decode cX1_put 18 = .ok (.aload_n 0, 1) := by decide +kernel
theorem dX1_put_19 : decode cX1_put 19 = .ok (.getfield 9, 3) := by decide +kernel
theorem dX1_put_22 : decode cX1_put 22 = .ok (.iload_n 1, 1) := by decide +kernel
theorem dX1_put_23 : decode cX1_put 23 = .ok (.aload_n 0, 1) := by decide +kernel
theorem dX1_put_24 : decode cX1_put 24 = .ok (.iload_n 2, 1) := by decide +kernel
theorem dX1_put_25 : decode cX1_put 25 = .ok (.invokevirtual 41, 3) := by decide +kernel
theorem dX1_put_28 : decode cX1_put 28 = .ok (.iastore, 1) := by decide +kernel
theorem dX1_put_29 : decode cX1_put 29 = .ok (.return_, 1) := by decide +kernel
set_option maxRecDepth 20000 in
theorem m_X1_put {h : Hp} {S : Nat} {a1 : Int32} {a2 : Int32} (hS : sk S = 1) {u : Hp} (hu : f_X1_put h S a1 a2 = some u) : Ct yX1_put cX1_put 3 none 1 [.ref S, .int a1, .int a2] h (eV u) := by
  refine ct_of eV hu (by decide) (Nat.le_of_ble_eq_true rfl) (fun κ hn C E => ?_)
  unfold f_X1_put
  show Xz κ _ 0 [(0, .ref S), (1, .int a1), (2, .int a2)] [] h
  refine x_iload_n 1 C dX1_put_0 1 rfl rfl rfl ?_
  refine x_if_lt 4 29 C dX1_put_1 (by decide) rfl (fun _ => ?_) (fun _ => ?_)
  · exact x_vret C E dX1_put_29 rfl
  · refine x_iload_n 5 C dX1_put_4 1 rfl rfl rfl ?_
    refine x_aload_n 6 C dX1_put_5 0 rfl rfl rfl ?_
    refine x_getI 9 C dX1_put_6 fl_X1_23 hS rfl rfl ?_
    refine x_icmp_ge 12 29 C dX1_put_9 (by decide) rfl (fun _ => ?_) (fun _ => ?_)
    · exact x_vret C E dX1_put_29 rfl
    · refine x_iload_n 13 C dX1_put_12 1 rfl rfl rfl ?_
      refine x_bipush 15 C dX1_put_13 cb_60 rfl ?_
      refine x_icmp_ge 18 29 C dX1_put_15 (by decide) rfl (fun _ => ?_) (fun _ => ?_)
      · exact x_vret C E dX1_put_29 rfl
      · refine x_aload_n 19 C dX1_put_18 0 rfl rfl rfl ?_
        refine x_getR (c := (S + 1)) 22 C dX1_put_19 fl_X1_9 hS rfl (of_1_0 hS) rfl ?_
        refine x_iload_n 23 C dX1_put_22 1 rfl rfl rfl ?_
        refine x_aload_n 24 C dX1_put_23 0 rfl rfl rfl ?_
        refine x_iload_n 25 C dX1_put_24 2 rfl rfl rfl ?_
        refine x_cvi 28 [.int a2] [.int a1, .ref (S + 1)] C 0 dX1_put_25 v_X1_41 (fun u hu => m_X1_fitted hS hu) rfl hS rfl (Nat.le_of_ble_eq_true rfl) (Nat.le_of_ble_eq_true rfl) rfl (fun x1 => ?_)
        refine x_iast 29 C dX1_put_28 (ok_1_0 hS) (ol_1_0 hS) rfl (fun h2 => ?_)
        exact x_vret C E dX1_put_29 rfl

def f_X1_hasRun (h : Hp) (S : Nat) (a1 : Int32) (a2 : Int32) : Option Int32 :=
  if a1 < 0 then (
    some (0 : Int32))
  else (
    if a2 < 0 then (
      some (0 : Int32))
    else (
      if (h.1 S 3) < a2 then (
        some (0 : Int32))
      else (
        if ((h.1 S 3) - a2) < a1 then (
          some (0 : Int32))
        else (
          some (1 : Int32)))))
theorem dX1_hasRun_0 : decode cX1_hasRun 0 = .ok (.iload_n 1, 1) := by decide +kernel
theorem dX1_hasRun_1 : decode cX1_hasRun 1 = .ok (.ifCond .lt 29, 3) := by decide +kernel
theorem dX1_hasRun_4 : decode cX1_hasRun 4 = .ok (.iload_n 2, 1) := by decide +kernel
theorem dX1_hasRun_5 : decode cX1_hasRun 5 = .ok (.ifCond .lt 25, 3) := by decide +kernel
theorem dX1_hasRun_8 : decode cX1_hasRun 8 = .ok (.iload_n 2, 1) := by decide +kernel
theorem dX1_hasRun_9 : decode cX1_hasRun 9 = .ok (.aload_n 0, 1) := by decide +kernel
theorem dX1_hasRun_10 : decode cX1_hasRun 10 = .ok (.getfield 23, 3) := by decide +kernel
theorem dX1_hasRun_13 : decode cX1_hasRun 13 = .ok (.if_icmp .gt 17, 3) := by decide +kernel
theorem dX1_hasRun_16 : decode cX1_hasRun 16 = .ok (.iload_n 1, 1) := by decide +kernel
theorem dX1_hasRun_17 : decode cX1_hasRun 17 = .ok (.aload_n 0, 1) := by decide +kernel
theorem dX1_hasRun_18 : decode cX1_hasRun 18 = .ok (.getfield 23, 3) := by decide +kernel
theorem dX1_hasRun_21 : decode cX1_hasRun 21 = .ok (.iload_n 2, 1) := by decide +kernel
theorem dX1_hasRun_22 : decode cX1_hasRun 22 = .ok (.isub, 1) := by decide +kernel
theorem dX1_hasRun_23 : decode cX1_hasRun 23 = .ok (.if_icmp .gt 7, 3) := by decide +kernel
theorem dX1_hasRun_26 : decode cX1_hasRun 26 = .ok (.iconst 1, 1) := by decide +kernel
theorem dX1_hasRun_27 : decode cX1_hasRun 27 = .ok (.goto 4, 3) := by decide +kernel
theorem dX1_hasRun_30 : decode cX1_hasRun 30 = .ok (.iconst 0, 1) := by decide +kernel
theorem dX1_hasRun_31 : decode cX1_hasRun 31 = .ok (.ireturn, 1) := by decide +kernel
set_option maxRecDepth 20000 in
theorem m_X1_hasRun {h : Hp} {S : Nat} {a1 : Int32} {a2 : Int32} (hS : sk S = 1) {u : Int32} (hu : f_X1_hasRun h S a1 a2 = some u) : Ct yX1_hasRun cX1_hasRun 3 (some .boolean) 0 [.ref S, .int a1, .int a2] h ((rI h) u) := by
  refine ct_of (rI h) hu (by decide) (Nat.le_of_ble_eq_true rfl) (fun κ hn C E => ?_)
  unfold f_X1_hasRun
  show Xz κ _ 0 [(0, .ref S), (1, .int a1), (2, .int a2)] [] h
  refine x_iload_n 1 C dX1_hasRun_0 1 rfl rfl rfl ?_
  refine x_if_lt 4 30 C dX1_hasRun_1 (by decide) rfl (fun _ => ?_) (fun _ => ?_)
  · refine x_iconst 31 C dX1_hasRun_30 ci_0 rfl ?_
    exact x_zret C E dX1_hasRun_31 (Or.inl rfl) rfl
  · refine x_iload_n 5 C dX1_hasRun_4 2 rfl rfl rfl ?_
    refine x_if_lt 8 30 C dX1_hasRun_5 (by decide) rfl (fun _ => ?_) (fun _ => ?_)
    · refine x_iconst 31 C dX1_hasRun_30 ci_0 rfl ?_
      exact x_zret C E dX1_hasRun_31 (Or.inl rfl) rfl
    · refine x_iload_n 9 C dX1_hasRun_8 2 rfl rfl rfl ?_
      refine x_aload_n 10 C dX1_hasRun_9 0 rfl rfl rfl ?_
      refine x_getI 13 C dX1_hasRun_10 fl_X1_23 hS rfl rfl ?_
      refine x_icmp_gt 16 30 C dX1_hasRun_13 (by decide) rfl (fun _ => ?_) (fun _ => ?_)
      · refine x_iconst 31 C dX1_hasRun_30 ci_0 rfl ?_
        exact x_zret C E dX1_hasRun_31 (Or.inl rfl) rfl
      · refine x_iload_n 17 C dX1_hasRun_16 1 rfl rfl rfl ?_
        refine x_aload_n 18 C dX1_hasRun_17 0 rfl rfl rfl ?_
        refine x_getI 21 C dX1_hasRun_18 fl_X1_23 hS rfl rfl ?_
        refine x_iload_n 22 C dX1_hasRun_21 2 rfl rfl rfl ?_
        refine x_isub 23 C dX1_hasRun_22 rfl ?_
        refine x_icmp_gt 26 30 C dX1_hasRun_23 (by decide) rfl (fun _ => ?_) (fun _ => ?_)
        · refine x_iconst 31 C dX1_hasRun_30 ci_0 rfl ?_
          exact x_zret C E dX1_hasRun_31 (Or.inl rfl) rfl
        · refine x_iconst 27 C dX1_hasRun_26 ci_1 rfl ?_
          refine x_goto 31 C dX1_hasRun_27 (by decide) ?_
          exact x_zret C E dX1_hasRun_31 (Or.inr rfl) rfl

def f_X2_noteBeat (h : Hp) (S : Nat) (a1 : Int32) (a2 : Int32) (a3 : Int32) : Option Hp :=
  bdv (f_X0_noteSway h (S + 5) a1 a2) fun h1 =>
  fx2 FU (fun s1 (h2 : Hp) (x3 : Int32) =>
    if a3 ≤ x3 then (
      some h2)
    else (
      if (6 : Int32) ≤ x3 then (
        some h2)
      else (
        ck x3 6 (
          ck x3 6 (
            ck x3 6 (
              bdv (f_X0_note h2 (S + 5) a1 x3 (ia h2 (S + 10) x3) (ia h2 (S + 11) x3) (ia h2 (S + 12) x3)) fun h4 =>
              nm (x3 + (1 : Int32)) fun x5 =>
              s1 h4 x5)))))) h1 (0 : Int32)
theorem dX2_noteBeat_0 : decode cX2_noteBeat 0 = .ok (.aload_n 0, 1) := by decide +kernel
theorem dX2_noteBeat_1 : decode cX2_noteBeat 1 = .ok (.getfield 21, 3) := by decide +kernel
theorem dX2_noteBeat_4 : decode cX2_noteBeat 4 = .ok (.iload_n 1, 1) := by decide +kernel
theorem dX2_noteBeat_5 : decode cX2_noteBeat 5 = .ok (.iload_n 2, 1) := by decide +kernel
theorem dX2_noteBeat_6 : decode cX2_noteBeat 6 = .ok (.invokevirtual 152, 3) := by decide +kernel
theorem dX2_noteBeat_9 : decode cX2_noteBeat 9 = .ok (.iconst 0, 1) := by decide +kernel
theorem dX2_noteBeat_10 : decode cX2_noteBeat 10 = .ok (.istore 4, 2) := by decide +kernel
theorem dX2_noteBeat_12 : decode cX2_noteBeat 12 = .ok (.iload 4, 2) := by decide +kernel
theorem dX2_noteBeat_14 : decode cX2_noteBeat 14 = .ok (.iload_n 3, 1) := by decide +kernel
theorem dX2_noteBeat_15 : decode cX2_noteBeat 15 = .ok (.if_icmp .ge 47, 3) := by decide +kernel
theorem dX2_noteBeat_18 : decode cX2_noteBeat 18 = .ok (.iload 4, 2) := by decide +kernel
theorem dX2_noteBeat_20 : decode cX2_noteBeat 20 = .ok (.bipush 6, 2) := by decide +kernel
theorem dX2_noteBeat_22 : decode cX2_noteBeat 22 = .ok (.if_icmp .ge 40, 3) := by decide +kernel
theorem dX2_noteBeat_25 : decode cX2_noteBeat 25 = .ok (.aload_n 0, 1) := by decide +kernel
theorem dX2_noteBeat_26 : decode cX2_noteBeat 26 = .ok (.getfield 21, 3) := by decide +kernel
theorem dX2_noteBeat_29 : decode cX2_noteBeat 29 = .ok (.iload_n 1, 1) := by decide +kernel
theorem dX2_noteBeat_30 : decode cX2_noteBeat 30 = .ok (.iload 4, 2) := by decide +kernel
theorem dX2_noteBeat_32 : decode cX2_noteBeat 32 = .ok (.aload_n 0, 1) := by decide +kernel
theorem dX2_noteBeat_33 : decode cX2_noteBeat 33 = .ok (.getfield 25, 3) := by decide +kernel
theorem dX2_noteBeat_36 : decode cX2_noteBeat 36 = .ok (.iload 4, 2) := by decide +kernel
theorem dX2_noteBeat_38 : decode cX2_noteBeat 38 = .ok (.iaload, 1) := by decide +kernel
theorem dX2_noteBeat_39 : decode cX2_noteBeat 39 = .ok (.aload_n 0, 1) := by decide +kernel
theorem dX2_noteBeat_40 : decode cX2_noteBeat 40 = .ok (.getfield 29, 3) := by decide +kernel
theorem dX2_noteBeat_43 : decode cX2_noteBeat 43 = .ok (.iload 4, 2) := by decide +kernel
theorem dX2_noteBeat_45 : decode cX2_noteBeat 45 = .ok (.iaload, 1) := by decide +kernel
theorem dX2_noteBeat_46 : decode cX2_noteBeat 46 = .ok (.aload_n 0, 1) := by decide +kernel
theorem dX2_noteBeat_47 : decode cX2_noteBeat 47 = .ok (.getfield 32, 3) := by decide +kernel
theorem dX2_noteBeat_50 : decode cX2_noteBeat 50 = .ok (.iload 4, 2) := by decide +kernel
theorem dX2_noteBeat_52 : decode cX2_noteBeat 52 = .ok (.iaload, 1) := by decide +kernel
theorem dX2_noteBeat_53 : decode cX2_noteBeat 53 = .ok (.invokevirtual 156, 3) := by decide +kernel
theorem dX2_noteBeat_56 : decode cX2_noteBeat 56 = .ok (.iinc 4 1, 3) := by decide +kernel
theorem dX2_noteBeat_59 : decode cX2_noteBeat 59 = .ok (.goto (-47), 3) := by decide +kernel
theorem dX2_noteBeat_62 : decode cX2_noteBeat 62 = .ok (.return_, 1) := by decide +kernel
set_option maxRecDepth 20000 in
theorem m_X2_noteBeat {h : Hp} {S : Nat} {a1 : Int32} {a2 : Int32} {a3 : Int32} (hS : sk S = 2) {u : Hp} (hu : f_X2_noteBeat h S a1 a2 a3 = some u) : Ct yX2_noteBeat cX2_noteBeat 5 none 4 [.ref S, .int a1, .int a2, .int a3] h (eV u) := by
  refine ct_of eV hu (by decide) (Nat.le_of_ble_eq_true rfl) (fun κ hn C E => ?_)
  have n4 : 4 < kn κ := by rw [hn]; decide
  unfold f_X2_noteBeat
  show Xz κ _ 0 [(0, .ref S), (1, .int a1), (2, .int a2), (3, .int a3)] [] h
  refine x_aload_n 1 C dX2_noteBeat_0 0 rfl rfl rfl ?_
  refine x_getR (c := (S + 5)) 4 C dX2_noteBeat_1 fl_X2_21 hS rfl (of_2_1 hS) rfl ?_
  refine x_iload_n 5 C dX2_noteBeat_4 1 rfl rfl rfl ?_
  refine x_iload_n 6 C dX2_noteBeat_5 2 rfl rfl rfl ?_
  refine x_cvV 9 [.int a1, .int a2] [] C 2 dX2_noteBeat_6 v_X2_152 (fun u hu => m_X0_noteSway (ok_2_1 hS) hu) rfl (ok_2_1 hS) rfl (Nat.le_of_ble_eq_true rfl) (Nat.le_of_ble_eq_true rfl) rfl (fun h1 => ?_)
  refine x_iconst 10 C dX2_noteBeat_9 ci_0 rfl ?_
  refine x_istore 12 [(4, .int (0 : Int32)), (0, .ref S), (1, .int a1), (2, .int a2), (3, .int a3)] C dX2_noteBeat_10 n4 rfl rfl ?_
  refine x_ls [1, 2, 4, 0] rfl (x_fx2 (ls := fun h2 x3 => [(0, .ref S), (1, .int a1), (3, .int a3), (4, .int x3)]) (st := fun h2 x3 => []) (hh := fun h2 x3 => h2) (fun s1 J1 h2 x3 => ?_))
  refine x_iload 14 C dX2_noteBeat_12 3 rfl rfl ?_
  refine x_iload_n 15 C dX2_noteBeat_14 2 rfl rfl rfl ?_
  refine x_icmp_ge 18 62 C dX2_noteBeat_15 (by decide) rfl (fun _ => ?_) (fun _ => ?_)
  · exact x_vret C E dX2_noteBeat_62 rfl
  · refine x_iload 20 C dX2_noteBeat_18 3 rfl rfl ?_
    refine x_bipush 22 C dX2_noteBeat_20 cb_6 rfl ?_
    refine x_icmp_ge 25 62 C dX2_noteBeat_22 (by decide) rfl (fun _ => ?_) (fun _ => ?_)
    · exact x_vret C E dX2_noteBeat_62 rfl
    · refine x_aload_n 26 C dX2_noteBeat_25 0 rfl rfl rfl ?_
      refine x_getR (c := (S + 5)) 29 C dX2_noteBeat_26 fl_X2_21 hS rfl (of_2_1 hS) rfl ?_
      refine x_iload_n 30 C dX2_noteBeat_29 1 rfl rfl rfl ?_
      refine x_iload 32 C dX2_noteBeat_30 3 rfl rfl ?_
      refine x_aload_n 33 C dX2_noteBeat_32 0 rfl rfl rfl ?_
      refine x_getR (c := (S + 10)) 36 C dX2_noteBeat_33 fl_X2_25 hS rfl (of_2_2 hS) rfl ?_
      refine x_iload 38 C dX2_noteBeat_36 3 rfl rfl ?_
      refine x_iald 39 C dX2_noteBeat_38 (ok_2_2 hS) (ol_2_2 hS) rfl ?_
      refine x_aload_n 40 C dX2_noteBeat_39 0 rfl rfl rfl ?_
      refine x_getR (c := (S + 11)) 43 C dX2_noteBeat_40 fl_X2_29 hS rfl (of_2_3 hS) rfl ?_
      refine x_iload 45 C dX2_noteBeat_43 3 rfl rfl ?_
      refine x_iald 46 C dX2_noteBeat_45 (ok_2_3 hS) (ol_2_3 hS) rfl ?_
      refine x_aload_n 47 C dX2_noteBeat_46 0 rfl rfl rfl ?_
      refine x_getR (c := (S + 12)) 50 C dX2_noteBeat_47 fl_X2_32 hS rfl (of_2_4 hS) rfl ?_
      refine x_iload 52 C dX2_noteBeat_50 3 rfl rfl ?_
      refine x_iald 53 C dX2_noteBeat_52 (ok_2_4 hS) (ol_2_4 hS) rfl ?_
      refine x_cvV 56 [.int a1, .int x3, .int (ia h2 (S + 10) x3), .int (ia h2 (S + 11) x3), .int (ia h2 (S + 12) x3)] [] C 3 dX2_noteBeat_53 v_X2_156 (fun u hu => m_X0_note (ok_2_1 hS) hu) rfl (ok_2_1 hS) rfl (Nat.le_of_ble_eq_true rfl) (Nat.le_of_ble_eq_true rfl) rfl (fun h4 => ?_)
      refine x_iinc 59 (fun x5 => [(4, .int x5), (0, .ref S), (1, .int a1), (3, .int a3)]) C dX2_noteBeat_56 3 rfl ci_1 n4 (fun _ => rfl) rfl (fun x5 => ?_)
      refine x_goto 12 C dX2_noteBeat_59 (by decide) ?_
      exact x_ls [1, 2, 3, 0] rfl (J1 h4 x5)

def f_X2_dropPoles (h : Hp) (S : Nat) (a1 : Int32) : Option Hp :=
  fx2 FU (fun s1 (h1 : Hp) (x2 : Int32) =>
    if (6 : Int32) ≤ x2 then (
      some h1)
    else (
      lt1 (fun (h3 : Hp) =>
        nm (x2 + (1 : Int32)) fun x4 =>
        s1 h3 x4) fun k2 =>
      if ((a1 >>> (x2 &&& 31)) &&& (1 : Int32)) = (1 : Int32) then (
        ck x2 6 (nm (ux h1 (S + 13) x2 (0 : Int32)) fun h5 =>
        k2 h5))
      else (
        k2 h1))) h (0 : Int32)
theorem dX2_dropPoles_0 : decode cX2_dropPoles 0 = .ok (.iconst 0, 1) := by decide +kernel
theorem dX2_dropPoles_1 : decode cX2_dropPoles 1 = .ok (.istore_n 2, 1) := by decide +kernel
theorem dX2_dropPoles_2 : decode cX2_dropPoles 2 = .ok (.iload_n 2, 1) := by decide +kernel
theorem dX2_dropPoles_3 : decode cX2_dropPoles 3 = .ok (.bipush 6, 2) := by decide +kernel
theorem dX2_dropPoles_5 : decode cX2_dropPoles 5 = .ok (.if_icmp .ge 25, 3) := by decide +kernel
theorem dX2_dropPoles_8 : decode cX2_dropPoles 8 = .ok (.iload_n 1, 1) := by decide +kernel
theorem dX2_dropPoles_9 : decode cX2_dropPoles 9 = .ok (.iload_n 2, 1) := by decide +kernel
theorem dX2_dropPoles_10 : decode cX2_dropPoles 10 = .ok (.ishr, 1) := by decide +kernel
theorem dX2_dropPoles_11 : decode cX2_dropPoles 11 = .ok (.iconst 1, 1) := by decide +kernel
theorem dX2_dropPoles_12 : decode cX2_dropPoles 12 = .ok (.iand, 1) := by decide +kernel
theorem dX2_dropPoles_13 : decode cX2_dropPoles 13 = .ok (.iconst 1, 1) := by decide +kernel
theorem dX2_dropPoles_14 : decode cX2_dropPoles 14 = .ok (.if_icmp .ne 10, 3) := by decide +kernel
theorem dX2_dropPoles_17 : decode cX2_dropPoles 17 = .ok (.aload_n 0, 1) := by decide +kernel
theorem dX2_dropPoles_18 : decode cX2_dropPoles 18 = .ok (.getfield 35, 3) := by decide +kernel
theorem dX2_dropPoles_21 : decode cX2_dropPoles 21 = .ok (.iload_n 2, 1) := by decide +kernel
theorem dX2_dropPoles_22 : decode cX2_dropPoles 22 = .ok (.iconst 0, 1) := by decide +kernel
theorem dX2_dropPoles_23 : decode cX2_dropPoles 23 = .ok (.iastore, 1) := by decide +kernel
theorem dX2_dropPoles_24 : decode cX2_dropPoles 24 = .ok (.iinc 2 1, 3) := by decide +kernel
theorem dX2_dropPoles_27 : decode cX2_dropPoles 27 = .ok (.goto (-25), 3) := by decide +kernel
theorem dX2_dropPoles_30 : decode cX2_dropPoles 30 = .ok (.return_, 1) := by decide +kernel
set_option maxRecDepth 20000 in
theorem m_X2_dropPoles {h : Hp} {S : Nat} {a1 : Int32} (hS : sk S = 2) {u : Hp} (hu : f_X2_dropPoles h S a1 = some u) : Ct yX2_dropPoles cX2_dropPoles 3 none 0 [.ref S, .int a1] h (eV u) := by
  refine ct_of eV hu (by decide) (Nat.le_of_ble_eq_true rfl) (fun κ hn C E => ?_)
  have n2 : 2 < kn κ := by rw [hn]; decide
  unfold f_X2_dropPoles
  show Xz κ _ 0 [(0, .ref S), (1, .int a1)] [] h
  refine x_iconst 1 C dX2_dropPoles_0 ci_0 rfl ?_
  refine x_istore_n 2 [(2, .int (0 : Int32)), (0, .ref S), (1, .int a1)] C dX2_dropPoles_1 n2 rfl rfl rfl ?_
  refine x_ls [1, 2, 0] rfl (x_fx2 (ls := fun h1 x2 => [(0, .ref S), (1, .int a1), (2, .int x2)]) (st := fun h1 x2 => []) (hh := fun h1 x2 => h1) (fun s1 J1 h1 x2 => ?_))
  refine x_iload_n 3 C dX2_dropPoles_2 2 rfl rfl rfl ?_
  refine x_bipush 5 C dX2_dropPoles_3 cb_6 rfl ?_
  refine x_icmp_ge 8 30 C dX2_dropPoles_5 (by decide) rfl (fun _ => ?_) (fun _ => ?_)
  · exact x_vret C E dX2_dropPoles_30 rfl
  · refine x_iload_n 9 C dX2_dropPoles_8 1 rfl rfl rfl ?_
    refine x_iload_n 10 C dX2_dropPoles_9 2 rfl rfl rfl ?_
    refine x_ishr 11 C dX2_dropPoles_10 rfl ?_
    refine x_iconst 12 C dX2_dropPoles_11 ci_1 rfl ?_
    refine x_iand 13 C dX2_dropPoles_12 rfl ?_
    refine x_iconst 14 C dX2_dropPoles_13 ci_1 rfl ?_
    refine x_lt1 (q := 24) (ls := fun h3 => [(0, .ref S), (1, .int a1), (2, .int x2)]) (st := fun h3 => []) (hh := fun h3 => h3) (fun h3 => ?_) (fun k2 J2 => ?_)
    · refine x_iinc 27 (fun x4 => [(2, .int x4), (0, .ref S), (1, .int a1)]) C dX2_dropPoles_24 2 rfl ci_1 n2 (fun _ => rfl) rfl (fun x4 => ?_)
      refine x_goto 2 C dX2_dropPoles_27 (by decide) ?_
      exact x_ls [1, 2, 0] rfl (J1 h3 x4)
    refine x_icmp_ne 17 24 C dX2_dropPoles_14 (by decide) rfl (fun _ => ?_) (fun _ => ?_)
    · exact x_ls [0, 1, 2] rfl (J2 h1)
    · refine x_aload_n 18 C dX2_dropPoles_17 0 rfl rfl rfl ?_
      refine x_getR (c := (S + 13)) 21 C dX2_dropPoles_18 fl_X2_35 hS rfl (of_2_5 hS) rfl ?_
      refine x_iload_n 22 C dX2_dropPoles_21 2 rfl rfl rfl ?_
      refine x_iconst 23 C dX2_dropPoles_22 ci_0 rfl ?_
      refine x_iast 24 C dX2_dropPoles_23 (ok_2_5 hS) (ol_2_5 hS) rfl (fun h5 => ?_)
      exact x_ls [0, 1, 2] rfl (J2 h5)

def f_X2_signOf (a1 : Int32) : Option Int32 :=
  if a1 ≤ 0 then (
    if 0 ≤ a1 then (
      some (0 : Int32))
    else (
      some (-1 : Int32)))
  else (
    some (1 : Int32))
theorem dX2_signOf_0 : decode cX2_signOf 0 = .ok (.iload_n 0, 1) := by decide +kernel
theorem dX2_signOf_1 : decode cX2_signOf 1 = .ok (.ifCond .le 7, 3) := by decide +kernel
theorem dX2_signOf_4 : decode cX2_signOf 4 = .ok (.iconst 1, 1) := by decide +kernel
theorem dX2_signOf_5 : decode cX2_signOf 5 = .ok (.goto 12, 3) := by decide +kernel
theorem dX2_signOf_8 : decode cX2_signOf 8 = .ok (.iload_n 0, 1) := by decide +kernel
theorem dX2_signOf_9 : decode cX2_signOf 9 = .ok (.ifCond .ge 7, 3) := by decide +kernel
theorem dX2_signOf_12 : decode cX2_signOf 12 = .ok (.iconst (-1), 1) := by decide +kernel
theorem dX2_signOf_13 : decode cX2_signOf 13 = .ok (.goto 4, 3) := by decide +kernel
theorem dX2_signOf_16 : decode cX2_signOf 16 = .ok (.iconst 0, 1) := by decide +kernel
theorem dX2_signOf_17 : decode cX2_signOf 17 = .ok (.ireturn, 1) := by decide +kernel
set_option maxRecDepth 20000 in
theorem m_X2_signOf {h : Hp} {a1 : Int32}  {u : Int32} (hu : f_X2_signOf a1 = some u) : Ct yX2_signOf cX2_signOf 1 (some .int) 0 [.int a1] h ((rI h) u) := by
  refine ct_of (rI h) hu (by decide) (Nat.le_of_ble_eq_true rfl) (fun κ hn C E => ?_)
  unfold f_X2_signOf
  show Xz κ _ 0 [(0, .int a1)] [] h
  refine x_iload_n 1 C dX2_signOf_0 0 rfl rfl rfl ?_
  refine x_if_le 4 8 C dX2_signOf_1 (by decide) rfl (fun _ => ?_) (fun _ => ?_)
  · refine x_iload_n 9 C dX2_signOf_8 0 rfl rfl rfl ?_
    refine x_if_ge 12 16 C dX2_signOf_9 (by decide) rfl (fun _ => ?_) (fun _ => ?_)
    · refine x_iconst 17 C dX2_signOf_16 ci_0 rfl ?_
      exact x_iret C E dX2_signOf_17 rfl
    · refine x_iconst 13 C dX2_signOf_12 ci_m1 rfl ?_
      refine x_goto 17 C dX2_signOf_13 (by decide) ?_
      exact x_iret C E dX2_signOf_17 rfl
  · refine x_iconst 5 C dX2_signOf_4 ci_1 rfl ?_
    refine x_goto 17 C dX2_signOf_5 (by decide) ?_
    exact x_iret C E dX2_signOf_17 rfl
end
