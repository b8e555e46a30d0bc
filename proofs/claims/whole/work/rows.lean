section
-- ===== PART A: goes FIRST, ahead of the names: the tables' words, and 'selects' of the private methods out of them =====
/-- a private method of a class that the tables say can be made, by its rows of tables_1 -/
def lw_okq (q : MethodName × Nat) : Prop := (q.1.cls ≠ "java/lang/invoke/MethodHandle" ∧ q.1.cls ≠ "java/lang/invoke/VarHandle") ∧ Cond.instantiable q.1.cls q.2 ∈ tables_1 ∧ Cond.privateMethod q.1 ∈ tables_1 ∧ Cond.instanceMethod q.1 ∈ tables_1
theorem lw_p0 : lw_okq (⟨"StrangersWind", "found", "(I)I"⟩, 17) := ⟨⟨by decide +kernel, by decide +kernel⟩, List.mem_of_getElem? (i := 13) (by decide +kernel), List.mem_of_getElem? (i := 285) (by decide +kernel), List.mem_of_getElem? (i := 286) (by decide +kernel)⟩
theorem lw_p1 : lw_okq (⟨"StrangersWind", "refusedPlace", "(II)I"⟩, 17) := ⟨⟨by decide +kernel, by decide +kernel⟩, List.mem_of_getElem? (i := 13) (by decide +kernel), List.mem_of_getElem? (i := 293) (by decide +kernel), List.mem_of_getElem? (i := 294) (by decide +kernel)⟩
theorem lw_p2 : lw_okq (⟨"StrangersWind$Reader", "skipBlanks", "()V"⟩, 3) := ⟨⟨by decide +kernel, by decide +kernel⟩, List.mem_of_getElem? (i := 104) (by decide +kernel), List.mem_of_getElem? (i := 341) (by decide +kernel), List.mem_of_getElem? (i := 342) (by decide +kernel)⟩
theorem lw_p3 : lw_okq (⟨"StrangersWind$Reader", "readSpring", "(LStrangersWind$Town;)Z"⟩, 3) := ⟨⟨by decide +kernel, by decide +kernel⟩, List.mem_of_getElem? (i := 104) (by decide +kernel), List.mem_of_getElem? (i := 345) (by decide +kernel), List.mem_of_getElem? (i := 346) (by decide +kernel)⟩
theorem lw_p4 : lw_okq (⟨"StrangersWind$Reader", "readFigure", "(II)I"⟩, 3) := ⟨⟨by decide +kernel, by decide +kernel⟩, List.mem_of_getElem? (i := 104) (by decide +kernel), List.mem_of_getElem? (i := 349) (by decide +kernel), List.mem_of_getElem? (i := 350) (by decide +kernel)⟩
theorem lw_p5 : lw_okq (⟨"StrangersWind$Reader", "readStranger", "(LStrangersWind$Town;I)Z"⟩, 3) := ⟨⟨by decide +kernel, by decide +kernel⟩, List.mem_of_getElem? (i := 104) (by decide +kernel), List.mem_of_getElem? (i := 353) (by decide +kernel), List.mem_of_getElem? (i := 354) (by decide +kernel)⟩
theorem lw_p6 : lw_okq (⟨"StrangersWind$Reader", "readKind", "()I"⟩, 3) := ⟨⟨by decide +kernel, by decide +kernel⟩, List.mem_of_getElem? (i := 104) (by decide +kernel), List.mem_of_getElem? (i := 357) (by decide +kernel), List.mem_of_getElem? (i := 358) (by decide +kernel)⟩
theorem lw_p7 : lw_okq (⟨"StrangersWind$Town", "carryOut", "(II)V"⟩, 15) := ⟨⟨by decide +kernel, by decide +kernel⟩, List.mem_of_getElem? (i := 25) (by decide +kernel), List.mem_of_getElem? (i := 444) (by decide +kernel), List.mem_of_getElem? (i := 445) (by decide +kernel)⟩
theorem lw_p8 : lw_okq (⟨"StrangersWind", "refusedGuests", "(IIZ)I"⟩, 17) := ⟨⟨by decide +kernel, by decide +kernel⟩, List.mem_of_getElem? (i := 13) (by decide +kernel), List.mem_of_getElem? (i := 512) (by decide +kernel), List.mem_of_getElem? (i := 513) (by decide +kernel)⟩
theorem lw_p9 : lw_okq (⟨"StrangersWind", "canAllCome", "(IZ)Z"⟩, 17) := ⟨⟨by decide +kernel, by decide +kernel⟩, List.mem_of_getElem? (i := 13) (by decide +kernel), List.mem_of_getElem? (i := 516) (by decide +kernel), List.mem_of_getElem? (i := 517) (by decide +kernel)⟩
theorem lw_p10 : lw_okq (⟨"StrangersWind", "fillRow", "(I[II)V"⟩, 17) := ⟨⟨by decide +kernel, by decide +kernel⟩, List.mem_of_getElem? (i := 13) (by decide +kernel), List.mem_of_getElem? (i := 552) (by decide +kernel), List.mem_of_getElem? (i := 553) (by decide +kernel)⟩
theorem lw_p11 : lw_okq (⟨"StrangersWind$Lettings", "weigh", "(III)V"⟩, 9) := ⟨⟨by decide +kernel, by decide +kernel⟩, List.mem_of_getElem? (i := 121) (by decide +kernel), List.mem_of_getElem? (i := 573) (by decide +kernel), List.mem_of_getElem? (i := 574) (by decide +kernel)⟩
theorem lw_p12 : lw_okq (⟨"StrangersWind", "tell", "(JJ)V"⟩, 17) := ⟨⟨by decide +kernel, by decide +kernel⟩, List.mem_of_getElem? (i := 13) (by decide +kernel), List.mem_of_getElem? (i := 582) (by decide +kernel), List.mem_of_getElem? (i := 583) (by decide +kernel)⟩
theorem lw_p13 : lw_okq (⟨"StrangersWind$Beard", "tally", "(I)V"⟩, 8) := ⟨⟨by decide +kernel, by decide +kernel⟩, List.mem_of_getElem? (i := 185) (by decide +kernel), List.mem_of_getElem? (i := 619) (by decide +kernel), List.mem_of_getElem? (i := 620) (by decide +kernel)⟩
theorem lw_p14 : lw_okq (⟨"StrangersWind", "refusedBeard", "(I)I"⟩, 17) := ⟨⟨by decide +kernel, by decide +kernel⟩, List.mem_of_getElem? (i := 13) (by decide +kernel), List.mem_of_getElem? (i := 630) (by decide +kernel), List.mem_of_getElem? (i := 631) (by decide +kernel)⟩
theorem lw_p15 : lw_okq (⟨"StrangersWind", "firstFalsePair", "([II)I"⟩, 17) := ⟨⟨by decide +kernel, by decide +kernel⟩, List.mem_of_getElem? (i := 13) (by decide +kernel), List.mem_of_getElem? (i := 664) (by decide +kernel), List.mem_of_getElem? (i := 665) (by decide +kernel)⟩
def lw_privs_1 : List (MethodName × Nat) := [(⟨"StrangersWind", "found", "(I)I"⟩, 17), (⟨"StrangersWind", "refusedPlace", "(II)I"⟩, 17), (⟨"StrangersWind$Reader", "skipBlanks", "()V"⟩, 3), (⟨"StrangersWind$Reader", "readSpring", "(LStrangersWind$Town;)Z"⟩, 3), (⟨"StrangersWind$Reader", "readFigure", "(II)I"⟩, 3), (⟨"StrangersWind$Reader", "readStranger", "(LStrangersWind$Town;I)Z"⟩, 3), (⟨"StrangersWind$Reader", "readKind", "()I"⟩, 3), (⟨"StrangersWind$Town", "carryOut", "(II)V"⟩, 15), (⟨"StrangersWind", "refusedGuests", "(IIZ)I"⟩, 17), (⟨"StrangersWind", "canAllCome", "(IZ)Z"⟩, 17), (⟨"StrangersWind", "fillRow", "(I[II)V"⟩, 17), (⟨"StrangersWind$Lettings", "weigh", "(III)V"⟩, 9), (⟨"StrangersWind", "tell", "(JJ)V"⟩, 17), (⟨"StrangersWind$Beard", "tally", "(I)V"⟩, 8), (⟨"StrangersWind", "refusedBeard", "(I)I"⟩, 17), (⟨"StrangersWind", "firstFalsePair", "([II)I"⟩, 17)]
theorem lw_r1 : ∀ q ∈ lw_privs_1, lw_okq q := List.forall_mem_cons.mpr ⟨lw_p0, List.forall_mem_cons.mpr ⟨lw_p1, List.forall_mem_cons.mpr ⟨lw_p2, List.forall_mem_cons.mpr ⟨lw_p3, List.forall_mem_cons.mpr ⟨lw_p4, List.forall_mem_cons.mpr ⟨lw_p5, List.forall_mem_cons.mpr ⟨lw_p6, List.forall_mem_cons.mpr ⟨lw_p7, List.forall_mem_cons.mpr ⟨lw_p8, List.forall_mem_cons.mpr ⟨lw_p9, List.forall_mem_cons.mpr ⟨lw_p10, List.forall_mem_cons.mpr ⟨lw_p11, List.forall_mem_cons.mpr ⟨lw_p12, List.forall_mem_cons.mpr ⟨lw_p13, List.forall_mem_cons.mpr ⟨lw_p14, List.forall_mem_cons.mpr ⟨lw_p15, fun _ h => absurd h List.not_mem_nil⟩⟩⟩⟩⟩⟩⟩⟩⟩⟩⟩⟩⟩⟩⟩⟩
theorem lw_p16 : lw_okq (⟨"StrangersWind", "noteLot", "(J)V"⟩, 17) := ⟨⟨by decide +kernel, by decide +kernel⟩, List.mem_of_getElem? (i := 13) (by decide +kernel), List.mem_of_getElem? (i := 694) (by decide +kernel), List.mem_of_getElem? (i := 695) (by decide +kernel)⟩
theorem lw_p17 : lw_okq (⟨"StrangersWind", "thoseKept", "()I"⟩, 17) := ⟨⟨by decide +kernel, by decide +kernel⟩, List.mem_of_getElem? (i := 13) (by decide +kernel), List.mem_of_getElem? (i := 720) (by decide +kernel), List.mem_of_getElem? (i := 721) (by decide +kernel)⟩
theorem lw_p18 : lw_okq (⟨"StrangersWindModel", "find", "(I)I"⟩, 29) := ⟨⟨by decide +kernel, by decide +kernel⟩, List.mem_of_getElem? (i := 739) (by decide +kernel), List.mem_of_getElem? (i := 844) (by decide +kernel), List.mem_of_getElem? (i := 845) (by decide +kernel)⟩
theorem lw_p19 : lw_okq (⟨"StrangersWindModel", "makeRow", "(II)V"⟩, 29) := ⟨⟨by decide +kernel, by decide +kernel⟩, List.mem_of_getElem? (i := 739) (by decide +kernel), List.mem_of_getElem? (i := 848) (by decide +kernel), List.mem_of_getElem? (i := 849) (by decide +kernel)⟩
theorem lw_p20 : lw_okq (⟨"StrangersWindModel", "refused", "(II)I"⟩, 29) := ⟨⟨by decide +kernel, by decide +kernel⟩, List.mem_of_getElem? (i := 739) (by decide +kernel), List.mem_of_getElem? (i := 856) (by decide +kernel), List.mem_of_getElem? (i := 857) (by decide +kernel)⟩
theorem lw_p21 : lw_okq (⟨"StrangersWindModel", "tell", "(I)I"⟩, 29) := ⟨⟨by decide +kernel, by decide +kernel⟩, List.mem_of_getElem? (i := 739) (by decide +kernel), List.mem_of_getElem? (i := 860) (by decide +kernel), List.mem_of_getElem? (i := 861) (by decide +kernel)⟩
theorem lw_p22 : lw_okq (⟨"StrangersWindModel", "isSpan", "(III)Z"⟩, 29) := ⟨⟨by decide +kernel, by decide +kernel⟩, List.mem_of_getElem? (i := 739) (by decide +kernel), List.mem_of_getElem? (i := 876) (by decide +kernel), List.mem_of_getElem? (i := 877) (by decide +kernel)⟩
theorem lw_p23 : lw_okq (⟨"StrangersWindModel", "faultOf", "(I)I"⟩, 29) := ⟨⟨by decide +kernel, by decide +kernel⟩, List.mem_of_getElem? (i := 739) (by decide +kernel), List.mem_of_getElem? (i := 900) (by decide +kernel), List.mem_of_getElem? (i := 901) (by decide +kernel)⟩
theorem lw_p24 : lw_okq (⟨"StrangersWindModel", "readsSpring", "()Z"⟩, 29) := ⟨⟨by decide +kernel, by decide +kernel⟩, List.mem_of_getElem? (i := 739) (by decide +kernel), List.mem_of_getElem? (i := 904) (by decide +kernel), List.mem_of_getElem? (i := 905) (by decide +kernel)⟩
theorem lw_p25 : lw_okq (⟨"StrangersWindModel", "skip", "()V"⟩, 29) := ⟨⟨by decide +kernel, by decide +kernel⟩, List.mem_of_getElem? (i := 739) (by decide +kernel), List.mem_of_getElem? (i := 908) (by decide +kernel), List.mem_of_getElem? (i := 909) (by decide +kernel)⟩
theorem lw_p26 : lw_okq (⟨"StrangersWindModel", "here", "()I"⟩, 29) := ⟨⟨by decide +kernel, by decide +kernel⟩, List.mem_of_getElem? (i := 739) (by decide +kernel), List.mem_of_getElem? (i := 912) (by decide +kernel), List.mem_of_getElem? (i := 913) (by decide +kernel)⟩
theorem lw_p27 : lw_okq (⟨"StrangersWindModel", "figure", "(II)I"⟩, 29) := ⟨⟨by decide +kernel, by decide +kernel⟩, List.mem_of_getElem? (i := 739) (by decide +kernel), List.mem_of_getElem? (i := 916) (by decide +kernel), List.mem_of_getElem? (i := 917) (by decide +kernel)⟩
theorem lw_p28 : lw_okq (⟨"StrangersWindModel", "readsStranger", "()Z"⟩, 29) := ⟨⟨by decide +kernel, by decide +kernel⟩, List.mem_of_getElem? (i := 739) (by decide +kernel), List.mem_of_getElem? (i := 920) (by decide +kernel), List.mem_of_getElem? (i := 921) (by decide +kernel)⟩
theorem lw_p29 : lw_okq (⟨"StrangersWindModel", "isStranger", "(I)Z"⟩, 29) := ⟨⟨by decide +kernel, by decide +kernel⟩, List.mem_of_getElem? (i := 739) (by decide +kernel), List.mem_of_getElem? (i := 935) (by decide +kernel), List.mem_of_getElem? (i := 936) (by decide +kernel)⟩
theorem lw_p30 : lw_okq (⟨"StrangersWindModel", "toldOf", "(II)I"⟩, 29) := ⟨⟨by decide +kernel, by decide +kernel⟩, List.mem_of_getElem? (i := 739) (by decide +kernel), List.mem_of_getElem? (i := 939) (by decide +kernel), List.mem_of_getElem? (i := 940) (by decide +kernel)⟩
theorem lw_p31 : lw_okq (⟨"StrangersWindModel", "turnsOf", "(II)I"⟩, 29) := ⟨⟨by decide +kernel, by decide +kernel⟩, List.mem_of_getElem? (i := 739) (by decide +kernel), List.mem_of_getElem? (i := 943) (by decide +kernel), List.mem_of_getElem? (i := 944) (by decide +kernel)⟩
def lw_privs_2 : List (MethodName × Nat) := [(⟨"StrangersWind", "noteLot", "(J)V"⟩, 17), (⟨"StrangersWind", "thoseKept", "()I"⟩, 17), (⟨"StrangersWindModel", "find", "(I)I"⟩, 29), (⟨"StrangersWindModel", "makeRow", "(II)V"⟩, 29), (⟨"StrangersWindModel", "refused", "(II)I"⟩, 29), (⟨"StrangersWindModel", "tell", "(I)I"⟩, 29), (⟨"StrangersWindModel", "isSpan", "(III)Z"⟩, 29), (⟨"StrangersWindModel", "faultOf", "(I)I"⟩, 29), (⟨"StrangersWindModel", "readsSpring", "()Z"⟩, 29), (⟨"StrangersWindModel", "skip", "()V"⟩, 29), (⟨"StrangersWindModel", "here", "()I"⟩, 29), (⟨"StrangersWindModel", "figure", "(II)I"⟩, 29), (⟨"StrangersWindModel", "readsStranger", "()Z"⟩, 29), (⟨"StrangersWindModel", "isStranger", "(I)Z"⟩, 29), (⟨"StrangersWindModel", "toldOf", "(II)I"⟩, 29), (⟨"StrangersWindModel", "turnsOf", "(II)I"⟩, 29)]
theorem lw_r2 : ∀ q ∈ lw_privs_2, lw_okq q := List.forall_mem_cons.mpr ⟨lw_p16, List.forall_mem_cons.mpr ⟨lw_p17, List.forall_mem_cons.mpr ⟨lw_p18, List.forall_mem_cons.mpr ⟨lw_p19, List.forall_mem_cons.mpr ⟨lw_p20, List.forall_mem_cons.mpr ⟨lw_p21, List.forall_mem_cons.mpr ⟨lw_p22, List.forall_mem_cons.mpr ⟨lw_p23, List.forall_mem_cons.mpr ⟨lw_p24, List.forall_mem_cons.mpr ⟨lw_p25, List.forall_mem_cons.mpr ⟨lw_p26, List.forall_mem_cons.mpr ⟨lw_p27, List.forall_mem_cons.mpr ⟨lw_p28, List.forall_mem_cons.mpr ⟨lw_p29, List.forall_mem_cons.mpr ⟨lw_p30, List.forall_mem_cons.mpr ⟨lw_p31, fun _ h => absurd h List.not_mem_nil⟩⟩⟩⟩⟩⟩⟩⟩⟩⟩⟩⟩⟩⟩⟩⟩
theorem lw_p32 : lw_okq (⟨"StrangersWindModel", "pilgrims", "(I)I"⟩, 29) := ⟨⟨by decide +kernel, by decide +kernel⟩, List.mem_of_getElem? (i := 739) (by decide +kernel), List.mem_of_getElem? (i := 947) (by decide +kernel), List.mem_of_getElem? (i := 948) (by decide +kernel)⟩
theorem lw_p33 : lw_okq (⟨"StrangersWindModel", "isOf", "(II)Z"⟩, 29) := ⟨⟨by decide +kernel, by decide +kernel⟩, List.mem_of_getElem? (i := 739) (by decide +kernel), List.mem_of_getElem? (i := 961) (by decide +kernel), List.mem_of_getElem? (i := 962) (by decide +kernel)⟩
theorem lw_p34 : lw_okq (⟨"StrangersWindModel", "isIn", "(II)Z"⟩, 29) := ⟨⟨by decide +kernel, by decide +kernel⟩, List.mem_of_getElem? (i := 739) (by decide +kernel), List.mem_of_getElem? (i := 973) (by decide +kernel), List.mem_of_getElem? (i := 974) (by decide +kernel)⟩
theorem lw_p35 : lw_okq (⟨"StrangersWindModel", "doLet", "(I)I"⟩, 29) := ⟨⟨by decide +kernel, by decide +kernel⟩, List.mem_of_getElem? (i := 739) (by decide +kernel), List.mem_of_getElem? (i := 977) (by decide +kernel), List.mem_of_getElem? (i := 978) (by decide +kernel)⟩
theorem lw_p36 : lw_okq (⟨"StrangersWindModel", "keepPast", "()V"⟩, 29) := ⟨⟨by decide +kernel, by decide +kernel⟩, List.mem_of_getElem? (i := 739) (by decide +kernel), List.mem_of_getElem? (i := 981) (by decide +kernel), List.mem_of_getElem? (i := 982) (by decide +kernel)⟩
theorem lw_p37 : lw_okq (⟨"StrangersWindModel", "comesIn", "(II)V"⟩, 29) := ⟨⟨by decide +kernel, by decide +kernel⟩, List.mem_of_getElem? (i := 739) (by decide +kernel), List.mem_of_getElem? (i := 985) (by decide +kernel), List.mem_of_getElem? (i := 986) (by decide +kernel)⟩
theorem lw_p38 : lw_okq (⟨"StrangersWindModel", "doLeave", "(I)I"⟩, 29) := ⟨⟨by decide +kernel, by decide +kernel⟩, List.mem_of_getElem? (i := 739) (by decide +kernel), List.mem_of_getElem? (i := 993) (by decide +kernel), List.mem_of_getElem? (i := 994) (by decide +kernel)⟩
theorem lw_p39 : lw_okq (⟨"StrangersWindModel", "pass", "(I)I"⟩, 29) := ⟨⟨by decide +kernel, by decide +kernel⟩, List.mem_of_getElem? (i := 739) (by decide +kernel), List.mem_of_getElem? (i := 1001) (by decide +kernel), List.mem_of_getElem? (i := 1002) (by decide +kernel)⟩
theorem lw_p40 : lw_okq (⟨"StrangersWindModel", "copyTown", "(II)V"⟩, 29) := ⟨⟨by decide +kernel, by decide +kernel⟩, List.mem_of_getElem? (i := 739) (by decide +kernel), List.mem_of_getElem? (i := 1018) (by decide +kernel), List.mem_of_getElem? (i := 1019) (by decide +kernel)⟩
theorem lw_p41 : lw_okq (⟨"StrangersWindModel", "layTried", "()V"⟩, 29) := ⟨⟨by decide +kernel, by decide +kernel⟩, List.mem_of_getElem? (i := 739) (by decide +kernel), List.mem_of_getElem? (i := 1030) (by decide +kernel), List.mem_of_getElem? (i := 1031) (by decide +kernel)⟩
theorem lw_p42 : lw_okq (⟨"StrangersWindModel", "lastsTried", "()I"⟩, 29) := ⟨⟨by decide +kernel, by decide +kernel⟩, List.mem_of_getElem? (i := 739) (by decide +kernel), List.mem_of_getElem? (i := 1034) (by decide +kernel), List.mem_of_getElem? (i := 1035) (by decide +kernel)⟩
theorem lw_p43 : lw_okq (⟨"StrangersWindModel", "noRow", "(IIZ)I"⟩, 29) := ⟨⟨by decide +kernel, by decide +kernel⟩, List.mem_of_getElem? (i := 739) (by decide +kernel), List.mem_of_getElem? (i := 1042) (by decide +kernel), List.mem_of_getElem? (i := 1043) (by decide +kernel)⟩
theorem lw_p44 : lw_okq (⟨"StrangersWindModel", "isOut", "(I)Z"⟩, 29) := ⟨⟨by decide +kernel, by decide +kernel⟩, List.mem_of_getElem? (i := 739) (by decide +kernel), List.mem_of_getElem? (i := 1050) (by decide +kernel), List.mem_of_getElem? (i := 1051) (by decide +kernel)⟩
theorem lw_p45 : lw_okq (⟨"StrangersWindModel", "out", "()I"⟩, 29) := ⟨⟨by decide +kernel, by decide +kernel⟩, List.mem_of_getElem? (i := 739) (by decide +kernel), List.mem_of_getElem? (i := 1054) (by decide +kernel), List.mem_of_getElem? (i := 1055) (by decide +kernel)⟩
theorem lw_p46 : lw_okq (⟨"StrangersWindModel", "woundBy", "(I)I"⟩, 29) := ⟨⟨by decide +kernel, by decide +kernel⟩, List.mem_of_getElem? (i := 739) (by decide +kernel), List.mem_of_getElem? (i := 1058) (by decide +kernel), List.mem_of_getElem? (i := 1059) (by decide +kernel)⟩
theorem lw_p47 : lw_okq (⟨"StrangersWindModel", "comeTried", "(I)V"⟩, 29) := ⟨⟨by decide +kernel, by decide +kernel⟩, List.mem_of_getElem? (i := 739) (by decide +kernel), List.mem_of_getElem? (i := 1062) (by decide +kernel), List.mem_of_getElem? (i := 1063) (by decide +kernel)⟩
def lw_privs_3 : List (MethodName × Nat) := [(⟨"StrangersWindModel", "pilgrims", "(I)I"⟩, 29), (⟨"StrangersWindModel", "isOf", "(II)Z"⟩, 29), (⟨"StrangersWindModel", "isIn", "(II)Z"⟩, 29), (⟨"StrangersWindModel", "doLet", "(I)I"⟩, 29), (⟨"StrangersWindModel", "keepPast", "()V"⟩, 29), (⟨"StrangersWindModel", "comesIn", "(II)V"⟩, 29), (⟨"StrangersWindModel", "doLeave", "(I)I"⟩, 29), (⟨"StrangersWindModel", "pass", "(I)I"⟩, 29), (⟨"StrangersWindModel", "copyTown", "(II)V"⟩, 29), (⟨"StrangersWindModel", "layTried", "()V"⟩, 29), (⟨"StrangersWindModel", "lastsTried", "()I"⟩, 29), (⟨"StrangersWindModel", "noRow", "(IIZ)I"⟩, 29), (⟨"StrangersWindModel", "isOut", "(I)Z"⟩, 29), (⟨"StrangersWindModel", "out", "()I"⟩, 29), (⟨"StrangersWindModel", "woundBy", "(I)I"⟩, 29), (⟨"StrangersWindModel", "comeTried", "(I)V"⟩, 29)]
theorem lw_r3 : ∀ q ∈ lw_privs_3, lw_okq q := List.forall_mem_cons.mpr ⟨lw_p32, List.forall_mem_cons.mpr ⟨lw_p33, List.forall_mem_cons.mpr ⟨lw_p34, List.forall_mem_cons.mpr ⟨lw_p35, List.forall_mem_cons.mpr ⟨lw_p36, List.forall_mem_cons.mpr ⟨lw_p37, List.forall_mem_cons.mpr ⟨lw_p38, List.forall_mem_cons.mpr ⟨lw_p39, List.forall_mem_cons.mpr ⟨lw_p40, List.forall_mem_cons.mpr ⟨lw_p41, List.forall_mem_cons.mpr ⟨lw_p42, List.forall_mem_cons.mpr ⟨lw_p43, List.forall_mem_cons.mpr ⟨lw_p44, List.forall_mem_cons.mpr ⟨lw_p45, List.forall_mem_cons.mpr ⟨lw_p46, List.forall_mem_cons.mpr ⟨lw_p47, fun _ h => absurd h List.not_mem_nil⟩⟩⟩⟩⟩⟩⟩⟩⟩⟩⟩⟩⟩⟩⟩⟩
theorem lw_p48 : lw_okq (⟨"StrangersWindModel", "nextOrder", "(I)Z"⟩, 29) := ⟨⟨by decide +kernel, by decide +kernel⟩, List.mem_of_getElem? (i := 739) (by decide +kernel), List.mem_of_getElem? (i := 1070) (by decide +kernel), List.mem_of_getElem? (i := 1071) (by decide +kernel)⟩
theorem lw_p49 : lw_okq (⟨"StrangersWindModel", "leastBread", "(II)I"⟩, 29) := ⟨⟨by decide +kernel, by decide +kernel⟩, List.mem_of_getElem? (i := 739) (by decide +kernel), List.mem_of_getElem? (i := 1079) (by decide +kernel), List.mem_of_getElem? (i := 1080) (by decide +kernel)⟩
theorem lw_p50 : lw_okq (⟨"StrangersWindModel", "power", "(I)I"⟩, 29) := ⟨⟨by decide +kernel, by decide +kernel⟩, List.mem_of_getElem? (i := 739) (by decide +kernel), List.mem_of_getElem? (i := 1083) (by decide +kernel), List.mem_of_getElem? (i := 1084) (by decide +kernel)⟩
theorem lw_p51 : lw_okq (⟨"StrangersWindModel", "isLetting", "(II)Z"⟩, 29) := ⟨⟨by decide +kernel, by decide +kernel⟩, List.mem_of_getElem? (i := 739) (by decide +kernel), List.mem_of_getElem? (i := 1087) (by decide +kernel), List.mem_of_getElem? (i := 1088) (by decide +kernel)⟩
theorem lw_p52 : lw_okq (⟨"StrangersWindModel", "whoOf", "(III)I"⟩, 29) := ⟨⟨by decide +kernel, by decide +kernel⟩, List.mem_of_getElem? (i := 739) (by decide +kernel), List.mem_of_getElem? (i := 1091) (by decide +kernel), List.mem_of_getElem? (i := 1092) (by decide +kernel)⟩
theorem lw_p53 : lw_okq (⟨"StrangersWindModel", "layFits", "(I)I"⟩, 29) := ⟨⟨by decide +kernel, by decide +kernel⟩, List.mem_of_getElem? (i := 739) (by decide +kernel), List.mem_of_getElem? (i := 1112) (by decide +kernel), List.mem_of_getElem? (i := 1113) (by decide +kernel)⟩
theorem lw_p54 : lw_okq (⟨"StrangersWindModel", "noFits", "(I)I"⟩, 29) := ⟨⟨by decide +kernel, by decide +kernel⟩, List.mem_of_getElem? (i := 739) (by decide +kernel), List.mem_of_getElem? (i := 1120) (by decide +kernel), List.mem_of_getElem? (i := 1121) (by decide +kernel)⟩
theorem lw_p55 : lw_okq (⟨"StrangersWindModel", "greater", "(I)I"⟩, 29) := ⟨⟨by decide +kernel, by decide +kernel⟩, List.mem_of_getElem? (i := 739) (by decide +kernel), List.mem_of_getElem? (i := 1128) (by decide +kernel), List.mem_of_getElem? (i := 1129) (by decide +kernel)⟩
theorem lw_p56 : lw_okq (⟨"StrangersWindModel", "worthOf", "(II)I"⟩, 29) := ⟨⟨by decide +kernel, by decide +kernel⟩, List.mem_of_getElem? (i := 739) (by decide +kernel), List.mem_of_getElem? (i := 1141) (by decide +kernel), List.mem_of_getElem? (i := 1142) (by decide +kernel)⟩
theorem lw_p57 : lw_okq (⟨"StrangersWindModel", "waysOf", "(II)J"⟩, 29) := ⟨⟨by decide +kernel, by decide +kernel⟩, List.mem_of_getElem? (i := 739) (by decide +kernel), List.mem_of_getElem? (i := 1162) (by decide +kernel), List.mem_of_getElem? (i := 1163) (by decide +kernel)⟩
theorem lw_p58 : lw_okq (⟨"StrangersWindModel", "tellParts", "(JJ)I"⟩, 29) := ⟨⟨by decide +kernel, by decide +kernel⟩, List.mem_of_getElem? (i := 739) (by decide +kernel), List.mem_of_getElem? (i := 1166) (by decide +kernel), List.mem_of_getElem? (i := 1167) (by decide +kernel)⟩
theorem lw_p59 : lw_okq (⟨"StrangersWindModel", "countOf", "(I)I"⟩, 29) := ⟨⟨by decide +kernel, by decide +kernel⟩, List.mem_of_getElem? (i := 739) (by decide +kernel), List.mem_of_getElem? (i := 1199) (by decide +kernel), List.mem_of_getElem? (i := 1200) (by decide +kernel)⟩
theorem lw_p60 : lw_okq (⟨"StrangersWindModel", "strongs", "()I"⟩, 29) := ⟨⟨by decide +kernel, by decide +kernel⟩, List.mem_of_getElem? (i := 739) (by decide +kernel), List.mem_of_getElem? (i := 1203) (by decide +kernel), List.mem_of_getElem? (i := 1204) (by decide +kernel)⟩
theorem lw_p61 : lw_okq (⟨"StrangersWindModel", "thereOf", "(I)I"⟩, 29) := ⟨⟨by decide +kernel, by decide +kernel⟩, List.mem_of_getElem? (i := 739) (by decide +kernel), List.mem_of_getElem? (i := 1207) (by decide +kernel), List.mem_of_getElem? (i := 1208) (by decide +kernel)⟩
def lw_privs_4 : List (MethodName × Nat) := [(⟨"StrangersWindModel", "nextOrder", "(I)Z"⟩, 29), (⟨"StrangersWindModel", "leastBread", "(II)I"⟩, 29), (⟨"StrangersWindModel", "power", "(I)I"⟩, 29), (⟨"StrangersWindModel", "isLetting", "(II)Z"⟩, 29), (⟨"StrangersWindModel", "whoOf", "(III)I"⟩, 29), (⟨"StrangersWindModel", "layFits", "(I)I"⟩, 29), (⟨"StrangersWindModel", "noFits", "(I)I"⟩, 29), (⟨"StrangersWindModel", "greater", "(I)I"⟩, 29), (⟨"StrangersWindModel", "worthOf", "(II)I"⟩, 29), (⟨"StrangersWindModel", "waysOf", "(II)J"⟩, 29), (⟨"StrangersWindModel", "tellParts", "(JJ)I"⟩, 29), (⟨"StrangersWindModel", "countOf", "(I)I"⟩, 29), (⟨"StrangersWindModel", "strongs", "()I"⟩, 29), (⟨"StrangersWindModel", "thereOf", "(I)I"⟩, 29)]
theorem lw_r4 : ∀ q ∈ lw_privs_4, lw_okq q := List.forall_mem_cons.mpr ⟨lw_p48, List.forall_mem_cons.mpr ⟨lw_p49, List.forall_mem_cons.mpr ⟨lw_p50, List.forall_mem_cons.mpr ⟨lw_p51, List.forall_mem_cons.mpr ⟨lw_p52, List.forall_mem_cons.mpr ⟨lw_p53, List.forall_mem_cons.mpr ⟨lw_p54, List.forall_mem_cons.mpr ⟨lw_p55, List.forall_mem_cons.mpr ⟨lw_p56, List.forall_mem_cons.mpr ⟨lw_p57, List.forall_mem_cons.mpr ⟨lw_p58, List.forall_mem_cons.mpr ⟨lw_p59, List.forall_mem_cons.mpr ⟨lw_p60, List.forall_mem_cons.mpr ⟨lw_p61, fun _ h => absurd h List.not_mem_nil⟩⟩⟩⟩⟩⟩⟩⟩⟩⟩⟩⟩⟩⟩
def lw_privs : List (MethodName × Nat) := lw_privs_1 ++ (lw_privs_2 ++ (lw_privs_3 ++ (lw_privs_4)))
def lw_tbl : List Cond := k2_sels lw_privs ++ tables_1
theorem lw_privs_ok : ∀ q ∈ lw_privs, lw_okq q := by
  show ∀ q ∈ lw_privs_1 ++ (lw_privs_2 ++ (lw_privs_3 ++ (lw_privs_4))), lw_okq q
  exact List.forall_mem_append.mpr ⟨lw_r1, List.forall_mem_append.mpr ⟨lw_r2, List.forall_mem_append.mpr ⟨lw_r3, lw_r4⟩⟩⟩
end
section
def RX0 : String := "StrangersWind$Beard"
def TX0 : u_T := fun k => match k with
  | 0 => ("StrangersWind$Beard", "town", "LStrangersWind$Town;", true)
  | 1 => ("StrangersWind$Beard", "sets", "I", false)
  | 2 => ("StrangersWind$Beard", "first", "I", false)
  | 3 => ("StrangersWind$Beard", "inAll", "I", false)
  | 4 => ("StrangersWind$Beard", "inSome", "I", false)
  | 5 => ("StrangersWind$Beard", "fewest", "I", false)
  | 6 => ("StrangersWind$Beard", "most", "I", false)
  | _ => ("StrangersWind$Beard", "with", "[I", true)
def tyX0 : Nat → FieldType := fun k => match k with
  | 0 => .object "StrangersWind$Town"
  | 1 => .int
  | 2 => .int
  | 3 => .int
  | 4 => .int
  | 5 => .int
  | 6 => .int
  | _ => .array .int
abbrev wsX00 : List Cond := u_ws RX0 TX0 8
theorem nmX0 : ∀ a, a < 8 → ∀ b, b < 8 → a ≠ b → (TX0 a).2.1 ≠ (TX0 b).2.1 := by decide +kernel
theorem tyX0_ok : ∀ k, k < 8 → parseFieldDescriptor (TX0 k).2.2.1 = some (tyX0 k) := by decide +kernel
abbrev cX0_init : ByteArray := prog_2_method_1_code
def yX0_init : MethodName := ⟨RX0, "<init>", "(LStrangersWind$Town;)V"⟩
abbrev cX0_search : ByteArray := prog_2_method_2_code
def yX0_search : MethodName := ⟨RX0, "search", "(I)V"⟩
abbrev cX0_tally : ByteArray := prog_2_method_3_code
def yX0_tally : MethodName := ⟨RX0, "tally", "(I)V"⟩
def RX1 : String := "StrangersWind$Lettings"
def TX1 : u_T := fun k => match k with
  | 0 => ("StrangersWind$Lettings", "town", "LStrangersWind$Town;", true)
  | 1 => ("StrangersWind$Lettings", "hours", "I", false)
  | 2 => ("StrangersWind$Lettings", "told", "I", false)
  | 3 => ("StrangersWind$Lettings", "tried", "[I", true)
  | 4 => ("StrangersWind$Lettings", "best", "[I", true)
  | 5 => ("StrangersWind$Lettings", "ways", "I", false)
  | 6 => ("StrangersWind$Lettings", "leastBread", "I", false)
  | 7 => ("StrangersWind$Lettings", "mostHours", "I", false)
  | _ => ("StrangersWind$Lettings", "fewest", "I", false)
def tyX1 : Nat → FieldType := fun k => match k with
  | 0 => .object "StrangersWind$Town"
  | 1 => .int
  | 2 => .int
  | 3 => .array .int
  | 4 => .array .int
  | 5 => .int
  | 6 => .int
  | 7 => .int
  | _ => .int
abbrev wsX10 : List Cond := u_ws RX1 TX1 9
theorem nmX1 : ∀ a, a < 9 → ∀ b, b < 9 → a ≠ b → (TX1 a).2.1 ≠ (TX1 b).2.1 := by decide +kernel
theorem tyX1_ok : ∀ k, k < 9 → parseFieldDescriptor (TX1 k).2.2.1 = some (tyX1 k) := by decide +kernel
abbrev cX1_init : ByteArray := prog_3_method_1_code
def yX1_init : MethodName := ⟨RX1, "<init>", "(LStrangersWind$Town;)V"⟩
abbrev cX1_search : ByteArray := prog_3_method_2_code
def yX1_search : MethodName := ⟨RX1, "search", "(II)V"⟩
abbrev cX1_letIn : ByteArray := prog_3_method_3_code
def yX1_letIn : MethodName := ⟨RX1, "letIn", "(LStrangersWind$Lettings;IIIII)V"⟩
abbrev cX1_weigh : ByteArray := prog_3_method_4_code
def yX1_weigh : MethodName := ⟨RX1, "weigh", "(III)V"⟩
def RX2 : String := "StrangersWind$Orders"
def TX2 : u_T := fun k => match k with
  | 0 => ("StrangersWind$Orders", "town", "LStrangersWind$Town;", true)
  | 1 => ("StrangersWind$Orders", "tried", "[I", true)
  | 2 => ("StrangersWind$Orders", "best", "[I", true)
  | 3 => ("StrangersWind$Orders", "due", "I", false)
  | _ => ("StrangersWind$Orders", "farthest", "I", false)
def tyX2 : Nat → FieldType := fun k => match k with
  | 0 => .object "StrangersWind$Town"
  | 1 => .array .int
  | 2 => .array .int
  | 3 => .int
  | _ => .int
abbrev wsX20 : List Cond := u_ws RX2 TX2 5
theorem nmX2 : ∀ a, a < 5 → ∀ b, b < 5 → a ≠ b → (TX2 a).2.1 ≠ (TX2 b).2.1 := by decide +kernel
theorem tyX2_ok : ∀ k, k < 5 → parseFieldDescriptor (TX2 k).2.2.1 = some (tyX2 k) := by decide +kernel
abbrev cX2_init : ByteArray := prog_4_method_1_code
def yX2_init : MethodName := ⟨RX2, "<init>", "(LStrangersWind$Town;)V"⟩
abbrev cX2_search : ByteArray := prog_4_method_2_code
def yX2_search : MethodName := ⟨RX2, "search", "()V"⟩
abbrev cX2_lineUp : ByteArray := prog_4_method_3_code
def yX2_lineUp : MethodName := ⟨RX2, "lineUp", "(LStrangersWind$Orders;III)V"⟩
def RX3 : String := "StrangersWind$Reader"
def TX3 : u_T := fun k => match k with
  | 0 => ("StrangersWind$Reader", "bytes", "[B", false)
  | 1 => ("StrangersWind$Reader", "size", "I", false)
  | _ => ("StrangersWind$Reader", "place", "I", false)
def tyX3 : Nat → FieldType := fun k => match k with
  | 0 => .array .byte
  | 1 => .int
  | _ => .int
abbrev wsX30 : List Cond := u_ws RX3 TX3 3
theorem nmX3 : ∀ a, a < 3 → ∀ b, b < 3 → a ≠ b → (TX3 a).2.1 ≠ (TX3 b).2.1 := by decide +kernel
theorem tyX3_ok : ∀ k, k < 3 → parseFieldDescriptor (TX3 k).2.2.1 = some (tyX3 k) := by decide +kernel
abbrev cX3_init : ByteArray := prog_5_method_1_code
def yX3_init : MethodName := ⟨RX3, "<init>", "()V"⟩
abbrev cX3_readTown : ByteArray := prog_5_method_2_code
def yX3_readTown : MethodName := ⟨RX3, "readTown", "([BILStrangersWind$Town;)I"⟩
abbrev cX3_skipBlanks : ByteArray := prog_5_method_3_code
def yX3_skipBlanks : MethodName := ⟨RX3, "skipBlanks", "()V"⟩
abbrev cX3_readSpring : ByteArray := prog_5_method_4_code
def yX3_readSpring : MethodName := ⟨RX3, "readSpring", "(LStrangersWind$Town;)Z"⟩
abbrev cX3_readStranger : ByteArray := prog_5_method_5_code
def yX3_readStranger : MethodName := ⟨RX3, "readStranger", "(LStrangersWind$Town;I)Z"⟩
abbrev cX3_readKind : ByteArray := prog_5_method_6_code
def yX3_readKind : MethodName := ⟨RX3, "readKind", "()I"⟩
abbrev cX3_kindOf : ByteArray := prog_5_method_7_code
def yX3_kindOf : MethodName := ⟨RX3, "kindOf", "(I)I"⟩
abbrev cX3_readFigure : ByteArray := prog_5_method_8_code
def yX3_readFigure : MethodName := ⟨RX3, "readFigure", "(II)I"⟩
def RX4 : String := "StrangersWind$Town"
def TX4 : u_T := fun k => match k with
  | 0 => ("StrangersWind$Town", "size", "I", false)
  | 1 => ("StrangersWind$Town", "kinds", "[I", true)
  | 2 => ("StrangersWind$Town", "strengths", "[I", true)
  | 3 => ("StrangersWind$Town", "gates", "[I", true)
  | 4 => ("StrangersWind$Town", "breads", "[I", true)
  | 5 => ("StrangersWind$Town", "firstWound", "I", false)
  | 6 => ("StrangersWind$Town", "firstFrost", "I", false)
  | 7 => ("StrangersWind$Town", "wound", "I", false)
  | 8 => ("StrangersWind$Town", "frost", "I", false)
  | 9 => ("StrangersWind$Town", "clock", "I", false)
  | 10 => ("StrangersWind$Town", "hours", "I", false)
  | 11 => ("StrangersWind$Town", "in", "I", false)
  | 12 => ("StrangersWind$Town", "deeds", "[I", true)
  | 13 => ("StrangersWind$Town", "deedNumbers", "[I", true)
  | _ => ("StrangersWind$Town", "done", "I", false)
def tyX4 : Nat → FieldType := fun k => match k with
  | 0 => .int
  | 1 => .array .int
  | 2 => .array .int
  | 3 => .array .int
  | 4 => .array .int
  | 5 => .int
  | 6 => .int
  | 7 => .int
  | 8 => .int
  | 9 => .int
  | 10 => .int
  | 11 => .int
  | 12 => .array .int
  | 13 => .array .int
  | _ => .int
abbrev wsX40 : List Cond := u_ws RX4 TX4 15
theorem nmX4 : ∀ a, a < 15 → ∀ b, b < 15 → a ≠ b → (TX4 a).2.1 ≠ (TX4 b).2.1 := by decide +kernel
theorem tyX4_ok : ∀ k, k < 15 → parseFieldDescriptor (TX4 k).2.2.1 = some (tyX4 k) := by decide +kernel
abbrev cX4_init : ByteArray := prog_6_method_1_code
def yX4_init : MethodName := ⟨RX4, "<init>", "()V"⟩
abbrev cX4_takeFrom : ByteArray := prog_6_method_2_code
def yX4_takeFrom : MethodName := ⟨RX4, "takeFrom", "(LStrangersWind$Town;)V"⟩
abbrev cX4_begin : ByteArray := prog_6_method_3_code
def yX4_begin : MethodName := ⟨RX4, "begin", "()V"⟩
abbrev cX4_has : ByteArray := prog_6_method_4_code
def yX4_has : MethodName := ⟨RX4, "has", "(I)Z"⟩
abbrev cX4_isIn : ByteArray := prog_6_method_5_code
def yX4_isIn : MethodName := ⟨RX4, "isIn", "(I)Z"⟩
abbrev cX4_sets : ByteArray := prog_6_method_6_code
def yX4_sets : MethodName := ⟨RX4, "sets", "()I"⟩
abbrev cX4_notIn : ByteArray := prog_6_method_7_code
def yX4_notIn : MethodName := ⟨RX4, "notIn", "()I"⟩
abbrev cX4_isFull : ByteArray := prog_6_method_8_code
def yX4_isFull : MethodName := ⟨RX4, "isFull", "(I)Z"⟩
abbrev cX4_note : ByteArray := prog_6_method_9_code
def yX4_note : MethodName := ⟨RX4, "note", "(II)V"⟩
abbrev cX4_redo : ByteArray := prog_6_method_10_code
def yX4_redo : MethodName := ⟨RX4, "redo", "(I)V"⟩
abbrev cX4_carryOut : ByteArray := prog_6_method_11_code
def yX4_carryOut : MethodName := ⟨RX4, "carryOut", "(II)V"⟩
abbrev cX4_isOf : ByteArray := prog_6_method_12_code
def yX4_isOf : MethodName := ⟨RX4, "isOf", "(II)Z"⟩
abbrev cX4_allOf : ByteArray := prog_6_method_13_code
def yX4_allOf : MethodName := ⟨RX4, "allOf", "(I)I"⟩
abbrev cX4_trait : ByteArray := prog_6_method_14_code
def yX4_trait : MethodName := ⟨RX4, "trait", "(II)I"⟩
abbrev cX4_markOf : ByteArray := prog_6_method_15_code
def yX4_markOf : MethodName := ⟨RX4, "markOf", "(II)I"⟩
abbrev cX4_turns : ByteArray := prog_6_method_16_code
def yX4_turns : MethodName := ⟨RX4, "turns", "(III)I"⟩
abbrev cX4_woundBy : ByteArray := prog_6_method_17_code
def yX4_woundBy : MethodName := ⟨RX4, "woundBy", "(III)I"⟩
abbrev cX4_woundBySet : ByteArray := prog_6_method_18_code
def yX4_woundBySet : MethodName := ⟨RX4, "woundBySet", "(I)I"⟩
abbrev cX4_woundNext : ByteArray := prog_6_method_19_code
def yX4_woundNext : MethodName := ⟨RX4, "woundNext", "(I)I"⟩
abbrev cX4_strikesNext : ByteArray := prog_6_method_20_code
def yX4_strikesNext : MethodName := ⟨RX4, "strikesNext", "(I)I"⟩
abbrev cX4_clockAfter : ByteArray := prog_6_method_21_code
def yX4_clockAfter : MethodName := ⟨RX4, "clockAfter", "(I)I"⟩
abbrev cX4_hoursLeft : ByteArray := prog_6_method_22_code
def yX4_hoursLeft : MethodName := ⟨RX4, "hoursLeft", "(I)I"⟩
abbrev cX4_weight : ByteArray := prog_6_method_23_code
def yX4_weight : MethodName := ⟨RX4, "weight", "(II)J"⟩
abbrev cX4_weights : ByteArray := prog_6_method_24_code
def yX4_weights : MethodName := ⟨RX4, "weights", "()J"⟩
def RX5 : String := "StrangersWind"
def TX5 : u_T := fun k => match k with
  | 0 => ("StrangersWind", "rows", "[[I", true)
  | 1 => ("StrangersWind", "rowSizes", "[I", true)
  | 2 => ("StrangersWind", "texts", "[[B", true)
  | 3 => ("StrangersWind", "textSizes", "[I", true)
  | 4 => ("StrangersWind", "here", "LStrangersWind$Town;", true)
  | 5 => ("StrangersWind", "draft", "LStrangersWind$Town;", true)
  | 6 => ("StrangersWind", "keptTowns", "[LStrangersWind$Town;", true)
  | 7 => ("StrangersWind", "isKept", "[Z", true)
  | 8 => ("StrangersWind", "reader", "LStrangersWind$Reader;", true)
  | 9 => ("StrangersWind", "lettings", "LStrangersWind$Lettings;", true)
  | 10 => ("StrangersWind", "orders", "LStrangersWind$Orders;", true)
  | 11 => ("StrangersWind", "beard", "LStrangersWind$Beard;", true)
  | 12 => ("StrangersWind", "findingCounts", "[I", true)
  | 13 => ("StrangersWind", "latestFinding", "I", false)
  | 14 => ("StrangersWind", "toldAside", "I", false)
  | 15 => ("StrangersWind", "toldUpper", "J", false)
  | _ => ("StrangersWind", "toldLower", "J", false)
def tyX5 : Nat → FieldType := fun k => match k with
  | 0 => .array (.array .int)
  | 1 => .array .int
  | 2 => .array (.array .byte)
  | 3 => .array .int
  | 4 => .object "StrangersWind$Town"
  | 5 => .object "StrangersWind$Town"
  | 6 => .array (.object "StrangersWind$Town")
  | 7 => .array .boolean
  | 8 => .object "StrangersWind$Reader"
  | 9 => .object "StrangersWind$Lettings"
  | 10 => .object "StrangersWind$Orders"
  | 11 => .object "StrangersWind$Beard"
  | 12 => .array .int
  | 13 => .int
  | 14 => .int
  | 15 => .long
  | _ => .long
abbrev wsX50 : List Cond := u_ws RX5 TX5 17
theorem nmX5 : ∀ a, a < 17 → ∀ b, b < 17 → a ≠ b → (TX5 a).2.1 ≠ (TX5 b).2.1 := by decide +kernel
theorem tyX5_ok : ∀ k, k < 17 → parseFieldDescriptor (TX5 k).2.2.1 = some (tyX5 k) := by decide +kernel
abbrev cX5_init : ByteArray := prog_1_method_1_code
def yX5_init : MethodName := ⟨RX5, "<init>", "()V"⟩
abbrev cX5_row : ByteArray := prog_1_method_2_code
def yX5_row : MethodName := ⟨RX5, "row", "(II)I"⟩
abbrev cX5_lay : ByteArray := prog_1_method_3_code
def yX5_lay : MethodName := ⟨RX5, "lay", "(III)I"⟩
abbrev cX5_at : ByteArray := prog_1_method_4_code
def yX5_at : MethodName := ⟨RX5, "at", "(II)I"⟩
abbrev cX5_tear : ByteArray := prog_1_method_5_code
def yX5_tear : MethodName := ⟨RX5, "tear", "(I)I"⟩
abbrev cX5_copy : ByteArray := prog_1_method_6_code
def yX5_copy : MethodName := ⟨RX5, "copy", "(IIIII)I"⟩
abbrev cX5_mean : ByteArray := prog_1_method_7_code
def yX5_mean : MethodName := ⟨RX5, "mean", "(I)I"⟩
abbrev cX5_text : ByteArray := prog_1_method_8_code
def yX5_text : MethodName := ⟨RX5, "text", "(II)I"⟩
abbrev cX5_put : ByteArray := prog_1_method_9_code
def yX5_put : MethodName := ⟨RX5, "put", "(III)I"⟩
abbrev cX5_fault : ByteArray := prog_1_method_10_code
def yX5_fault : MethodName := ⟨RX5, "fault", "(I)I"⟩
abbrev cX5_town : ByteArray := prog_1_method_11_code
def yX5_town : MethodName := ⟨RX5, "town", "(I)I"⟩
abbrev cX5_stranger : ByteArray := prog_1_method_12_code
def yX5_stranger : MethodName := ⟨RX5, "stranger", "(II)I"⟩
abbrev cX5_mark : ByteArray := prog_1_method_13_code
def yX5_mark : MethodName := ⟨RX5, "mark", "(II)I"⟩
abbrev cX5_gate : ByteArray := prog_1_method_14_code
def yX5_gate : MethodName := ⟨RX5, "gate", "(I)I"⟩
abbrev cX5_let : ByteArray := prog_1_method_15_code
def yX5_let : MethodName := ⟨RX5, "let", "(I)I"⟩
abbrev cX5_leave : ByteArray := prog_1_method_16_code
def yX5_leave : MethodName := ⟨RX5, "leave", "(I)I"⟩
abbrev cX5_hour : ByteArray := prog_1_method_17_code
def yX5_hour : MethodName := ⟨RX5, "hour", "()I"⟩
abbrev cX5_frost : ByteArray := prog_1_method_18_code
def yX5_frost : MethodName := ⟨RX5, "frost", "(I)I"⟩
abbrev cX5_undo : ByteArray := prog_1_method_19_code
def yX5_undo : MethodName := ⟨RX5, "undo", "(I)I"⟩
abbrev cX5_keep : ByteArray := prog_1_method_20_code
def yX5_keep : MethodName := ⟨RX5, "keep", "(I)I"⟩
abbrev cX5_on : ByteArray := prog_1_method_21_code
def yX5_on : MethodName := ⟨RX5, "on", "(I)I"⟩
abbrev cX5_lasts : ByteArray := prog_1_method_22_code
def yX5_lasts : MethodName := ⟨RX5, "lasts", "()I"⟩
abbrev cX5_wound : ByteArray := prog_1_method_23_code
def yX5_wound : MethodName := ⟨RX5, "wound", "(I)I"⟩
abbrev cX5_most : ByteArray := prog_1_method_24_code
def yX5_most : MethodName := ⟨RX5, "most", "()I"⟩
abbrev cX5_order : ByteArray := prog_1_method_25_code
def yX5_order : MethodName := ⟨RX5, "order", "(I)I"⟩
abbrev cX5_ways : ByteArray := prog_1_method_26_code
def yX5_ways : MethodName := ⟨RX5, "ways", "(II)I"⟩
abbrev cX5_bread : ByteArray := prog_1_method_27_code
def yX5_bread : MethodName := ⟨RX5, "bread", "(III)I"⟩
abbrev cX5_goes : ByteArray := prog_1_method_28_code
def yX5_goes : MethodName := ⟨RX5, "goes", "(I)I"⟩
abbrev cX5_behind : ByteArray := prog_1_method_29_code
def yX5_behind : MethodName := ⟨RX5, "behind", "(I)I"⟩
abbrev cX5_fits : ByteArray := prog_1_method_30_code
def yX5_fits : MethodName := ⟨RX5, "fits", "(I)I"⟩
abbrev cX5_sure : ByteArray := prog_1_method_31_code
def yX5_sure : MethodName := ⟨RX5, "sure", "(I)I"⟩
abbrev cX5_ask : ByteArray := prog_1_method_32_code
def yX5_ask : MethodName := ⟨RX5, "ask", "(I)I"⟩
abbrev cX5_came : ByteArray := prog_1_method_33_code
def yX5_came : MethodName := ⟨RX5, "came", "(I)I"⟩
abbrev cX5_duel : ByteArray := prog_1_method_34_code
def yX5_duel : MethodName := ⟨RX5, "duel", "(I)I"⟩
abbrev cX5_shut : ByteArray := prog_1_method_35_code
def yX5_shut : MethodName := ⟨RX5, "shut", "(I)I"⟩
abbrev cX5_meets : ByteArray := prog_1_method_36_code
def yX5_meets : MethodName := ⟨RX5, "meets", "(I)I"⟩
abbrev cX5_check : ByteArray := prog_1_method_37_code
def yX5_check : MethodName := ⟨RX5, "check", "(I)I"⟩
abbrev cX5_odds : ByteArray := prog_1_method_38_code
def yX5_odds : MethodName := ⟨RX5, "odds", "(II)I"⟩
abbrev cX5_mid : ByteArray := prog_1_method_39_code
def yX5_mid : MethodName := ⟨RX5, "mid", "(I)I"⟩
abbrev cX5_lots : ByteArray := prog_1_method_40_code
def yX5_lots : MethodName := ⟨RX5, "lots", "(II)I"⟩
abbrev cX5_asked : ByteArray := prog_1_method_41_code
def yX5_asked : MethodName := ⟨RX5, "asked", "()I"⟩
abbrev cX5_upper : ByteArray := prog_1_method_42_code
def yX5_upper : MethodName := ⟨RX5, "upper", "()J"⟩
abbrev cX5_lower : ByteArray := prog_1_method_43_code
def yX5_lower : MethodName := ⟨RX5, "lower", "()J"⟩
abbrev cX5_count : ByteArray := prog_1_method_44_code
def yX5_count : MethodName := ⟨RX5, "count", "(I)I"⟩
abbrev cX5_finding : ByteArray := prog_1_method_45_code
def yX5_finding : MethodName := ⟨RX5, "finding", "()I"⟩
abbrev cX5_findings : ByteArray := prog_1_method_46_code
def yX5_findings : MethodName := ⟨RX5, "findings", "(I)I"⟩
abbrev cX5_digest : ByteArray := prog_1_method_47_code
def yX5_digest : MethodName := ⟨RX5, "digest", "()J"⟩
abbrev cX5_isRow : ByteArray := prog_1_method_48_code
def yX5_isRow : MethodName := ⟨RX5, "isRow", "(I)Z"⟩
abbrev cX5_isText : ByteArray := prog_1_method_49_code
def yX5_isText : MethodName := ⟨RX5, "isText", "(I)Z"⟩
abbrev cX5_isKeep : ByteArray := prog_1_method_50_code
def yX5_isKeep : MethodName := ⟨RX5, "isKeep", "(I)Z"⟩
abbrev cX5_isLettingSize : ByteArray := prog_1_method_51_code
def yX5_isLettingSize : MethodName := ⟨RX5, "isLettingSize", "(I)Z"⟩
abbrev cX5_isDial : ByteArray := prog_1_method_52_code
def yX5_isDial : MethodName := ⟨RX5, "isDial", "(I)Z"⟩
abbrev cX5_isStrike : ByteArray := prog_1_method_53_code
def yX5_isStrike : MethodName := ⟨RX5, "isStrike", "(I)Z"⟩
abbrev cX5_isTwelfth : ByteArray := prog_1_method_54_code
def yX5_isTwelfth : MethodName := ⟨RX5, "isTwelfth", "(I)Z"⟩
abbrev cX5_isSpan : ByteArray := prog_1_method_55_code
def yX5_isSpan : MethodName := ⟨RX5, "isSpan", "(III)Z"⟩
abbrev cX5_found : ByteArray := prog_1_method_56_code
def yX5_found : MethodName := ⟨RX5, "found", "(I)I"⟩
abbrev cX5_refusedPlace : ByteArray := prog_1_method_57_code
def yX5_refusedPlace : MethodName := ⟨RX5, "refusedPlace", "(II)I"⟩
abbrev cX5_refusedGuests : ByteArray := prog_1_method_58_code
def yX5_refusedGuests : MethodName := ⟨RX5, "refusedGuests", "(IIZ)I"⟩
abbrev cX5_canAllCome : ByteArray := prog_1_method_59_code
def yX5_canAllCome : MethodName := ⟨RX5, "canAllCome", "(IZ)Z"⟩
abbrev cX5_refusedBeard : ByteArray := prog_1_method_60_code
def yX5_refusedBeard : MethodName := ⟨RX5, "refusedBeard", "(I)I"⟩
abbrev cX5_fillRow : ByteArray := prog_1_method_61_code
def yX5_fillRow : MethodName := ⟨RX5, "fillRow", "(I[II)V"⟩
abbrev cX5_tell : ByteArray := prog_1_method_62_code
def yX5_tell : MethodName := ⟨RX5, "tell", "(JJ)V"⟩
abbrev cX5_commonDivisor : ByteArray := prog_1_method_63_code
def yX5_commonDivisor : MethodName := ⟨RX5, "commonDivisor", "(JJ)J"⟩
abbrev cX5_thoseThere : ByteArray := prog_1_method_64_code
def yX5_thoseThere : MethodName := ⟨RX5, "thoseThere", "([I)I"⟩
abbrev cX5_thoseKept : ByteArray := prog_1_method_65_code
def yX5_thoseKept : MethodName := ⟨RX5, "thoseKept", "()I"⟩
abbrev cX5_firstFalsePair : ByteArray := prog_1_method_66_code
def yX5_firstFalsePair : MethodName := ⟨RX5, "firstFalsePair", "([II)I"⟩
abbrev cX5_noteLot : ByteArray := prog_1_method_67_code
def yX5_noteLot : MethodName := ⟨RX5, "noteLot", "(J)V"⟩
abbrev cX5_duelFrom : ByteArray := prog_1_method_68_code
def yX5_duelFrom : MethodName := ⟨RX5, "duelFrom", "(LStrangersWind$Town;IIII)I"⟩
def RX6 : String := "StrangersWindModel"
def TX6 : u_T := fun k => match k with
  | 0 => ("StrangersWindModel", "row", "[I", true)
  | 1 => ("StrangersWindModel", "strangers", "I", false)
  | 2 => ("StrangersWindModel", "kinds", "[I", true)
  | 3 => ("StrangersWindModel", "strengths", "[I", true)
  | 4 => ("StrangersWindModel", "breads", "[I", true)
  | 5 => ("StrangersWindModel", "sizes", "[I", true)
  | 6 => ("StrangersWindModel", "items", "[I", true)
  | 7 => ("StrangersWindModel", "lengths", "[I", true)
  | 8 => ("StrangersWindModel", "bytes", "[I", true)
  | 9 => ("StrangersWindModel", "asked", "I", false)
  | 10 => ("StrangersWindModel", "upper", "J", false)
  | 11 => ("StrangersWindModel", "lower", "J", false)
  | 12 => ("StrangersWindModel", "finding", "I", false)
  | 13 => ("StrangersWindModel", "findings", "[I", true)
  | 14 => ("StrangersWindModel", "from", "I", false)
  | 15 => ("StrangersWindModel", "place", "I", false)
  | 16 => ("StrangersWindModel", "end", "I", false)
  | 17 => ("StrangersWindModel", "readWound", "I", false)
  | 18 => ("StrangersWindModel", "readFrost", "I", false)
  | 19 => ("StrangersWindModel", "readStrangers", "[I", true)
  | 20 => ("StrangersWindModel", "readMany", "I", false)
  | 21 => ("StrangersWindModel", "struck", "I", false)
  | 22 => ("StrangersWindModel", "orders", "[I", true)
  | 23 => ("StrangersWindModel", "paid", "I", false)
  | 24 => ("StrangersWindModel", "cameBy", "I", false)
  | 25 => ("StrangersWindModel", "wentOn", "I", false)
  | 26 => ("StrangersWindModel", "cheapest", "I", false)
  | 27 => ("StrangersWindModel", "fit", "[Z", true)
  | _ => ("StrangersWindModel", "worths", "[I", true)
def tyX6 : Nat → FieldType := fun k => match k with
  | 0 => .array .int
  | 1 => .int
  | 2 => .array .int
  | 3 => .array .int
  | 4 => .array .int
  | 5 => .array .int
  | 6 => .array .int
  | 7 => .array .int
  | 8 => .array .int
  | 9 => .int
  | 10 => .long
  | 11 => .long
  | 12 => .int
  | 13 => .array .int
  | 14 => .int
  | 15 => .int
  | 16 => .int
  | 17 => .int
  | 18 => .int
  | 19 => .array .int
  | 20 => .int
  | 21 => .int
  | 22 => .array .int
  | 23 => .int
  | 24 => .int
  | 25 => .int
  | 26 => .int
  | 27 => .array .boolean
  | _ => .array .int
abbrev wsX60 : List Cond := u_ws RX6 TX6 29
theorem nmX6 : ∀ a, a < 29 → ∀ b, b < 29 → a ≠ b → (TX6 a).2.1 ≠ (TX6 b).2.1 := by decide +kernel
theorem tyX6_ok : ∀ k, k < 29 → parseFieldDescriptor (TX6 k).2.2.1 = some (tyX6 k) := by decide +kernel
abbrev cX6_init : ByteArray := prog_8_method_1_code
def yX6_init : MethodName := ⟨RX6, "<init>", "()V"⟩
abbrev cX6_bits : ByteArray := prog_8_method_2_code
def yX6_bits : MethodName := ⟨RX6, "bits", "(I)I"⟩
abbrev cX6_in : ByteArray := prog_8_method_3_code
def yX6_in : MethodName := ⟨RX6, "in", "(JJJ)Z"⟩
abbrev cX6_has : ByteArray := prog_8_method_4_code
def yX6_has : MethodName := ⟨RX6, "has", "(II)Z"⟩
abbrev cX6_find : ByteArray := prog_8_method_5_code
def yX6_find : MethodName := ⟨RX6, "find", "(I)I"⟩
abbrev cX6_tell : ByteArray := prog_8_method_6_code
def yX6_tell : MethodName := ⟨RX6, "tell", "(I)I"⟩
abbrev cX6_isRow : ByteArray := prog_8_method_7_code
def yX6_isRow : MethodName := ⟨RX6, "isRow", "(I)Z"⟩
abbrev cX6_isText : ByteArray := prog_8_method_8_code
def yX6_isText : MethodName := ⟨RX6, "isText", "(I)Z"⟩
abbrev cX6_row : ByteArray := prog_8_method_9_code
def yX6_row : MethodName := ⟨RX6, "row", "(II)I"⟩
abbrev cX6_makeRow : ByteArray := prog_8_method_10_code
def yX6_makeRow : MethodName := ⟨RX6, "makeRow", "(II)V"⟩
abbrev cX6_refused : ByteArray := prog_8_method_11_code
def yX6_refused : MethodName := ⟨RX6, "refused", "(II)I"⟩
abbrev cX6_lay : ByteArray := prog_8_method_12_code
def yX6_lay : MethodName := ⟨RX6, "lay", "(III)I"⟩
abbrev cX6_at : ByteArray := prog_8_method_13_code
def yX6_at : MethodName := ⟨RX6, "at", "(II)I"⟩
abbrev cX6_tear : ByteArray := prog_8_method_14_code
def yX6_tear : MethodName := ⟨RX6, "tear", "(I)I"⟩
abbrev cX6_isSpan : ByteArray := prog_8_method_15_code
def yX6_isSpan : MethodName := ⟨RX6, "isSpan", "(III)Z"⟩
abbrev cX6_copy : ByteArray := prog_8_method_16_code
def yX6_copy : MethodName := ⟨RX6, "copy", "(IIIII)I"⟩
abbrev cX6_mean : ByteArray := prog_8_method_17_code
def yX6_mean : MethodName := ⟨RX6, "mean", "(I)I"⟩
abbrev cX6_text : ByteArray := prog_8_method_18_code
def yX6_text : MethodName := ⟨RX6, "text", "(II)I"⟩
abbrev cX6_put : ByteArray := prog_8_method_19_code
def yX6_put : MethodName := ⟨RX6, "put", "(III)I"⟩
abbrev cX6_here : ByteArray := prog_8_method_20_code
def yX6_here : MethodName := ⟨RX6, "here", "()I"⟩
abbrev cX6_skip : ByteArray := prog_8_method_21_code
def yX6_skip : MethodName := ⟨RX6, "skip", "()V"⟩
abbrev cX6_figure : ByteArray := prog_8_method_22_code
def yX6_figure : MethodName := ⟨RX6, "figure", "(II)I"⟩
abbrev cX6_readsSpring : ByteArray := prog_8_method_23_code
def yX6_readsSpring : MethodName := ⟨RX6, "readsSpring", "()Z"⟩
abbrev cX6_kindOfLetter : ByteArray := prog_8_method_24_code
def yX6_kindOfLetter : MethodName := ⟨RX6, "kindOfLetter", "(I)I"⟩
abbrev cX6_readsStranger : ByteArray := prog_8_method_25_code
def yX6_readsStranger : MethodName := ⟨RX6, "readsStranger", "()Z"⟩
abbrev cX6_faultOf : ByteArray := prog_8_method_26_code
def yX6_faultOf : MethodName := ⟨RX6, "faultOf", "(I)I"⟩
abbrev cX6_fault : ByteArray := prog_8_method_27_code
def yX6_fault : MethodName := ⟨RX6, "fault", "(I)I"⟩
abbrev cX6_town : ByteArray := prog_8_method_28_code
def yX6_town : MethodName := ⟨RX6, "town", "(I)I"⟩
abbrev cX6_isStranger : ByteArray := prog_8_method_29_code
def yX6_isStranger : MethodName := ⟨RX6, "isStranger", "(I)Z"⟩
abbrev cX6_isIn : ByteArray := prog_8_method_30_code
def yX6_isIn : MethodName := ⟨RX6, "isIn", "(II)Z"⟩
abbrev cX6_pilgrims : ByteArray := prog_8_method_31_code
def yX6_pilgrims : MethodName := ⟨RX6, "pilgrims", "(I)I"⟩
abbrev cX6_turnsOf : ByteArray := prog_8_method_32_code
def yX6_turnsOf : MethodName := ⟨RX6, "turnsOf", "(II)I"⟩
abbrev cX6_comesIn : ByteArray := prog_8_method_33_code
def yX6_comesIn : MethodName := ⟨RX6, "comesIn", "(II)V"⟩
abbrev cX6_pass : ByteArray := prog_8_method_34_code
def yX6_pass : MethodName := ⟨RX6, "pass", "(I)I"⟩
abbrev cX6_layTried : ByteArray := prog_8_method_35_code
def yX6_layTried : MethodName := ⟨RX6, "layTried", "()V"⟩
abbrev cX6_comeTried : ByteArray := prog_8_method_36_code
def yX6_comeTried : MethodName := ⟨RX6, "comeTried", "(I)V"⟩
abbrev cX6_out : ByteArray := prog_8_method_37_code
def yX6_out : MethodName := ⟨RX6, "out", "()I"⟩
abbrev cX6_toldOf : ByteArray := prog_8_method_38_code
def yX6_toldOf : MethodName := ⟨RX6, "toldOf", "(II)I"⟩
abbrev cX6_stranger : ByteArray := prog_8_method_39_code
def yX6_stranger : MethodName := ⟨RX6, "stranger", "(II)I"⟩
abbrev cX6_isOf : ByteArray := prog_8_method_40_code
def yX6_isOf : MethodName := ⟨RX6, "isOf", "(II)Z"⟩
abbrev cX6_mark : ByteArray := prog_8_method_41_code
def yX6_mark : MethodName := ⟨RX6, "mark", "(II)I"⟩
abbrev cX6_gate : ByteArray := prog_8_method_42_code
def yX6_gate : MethodName := ⟨RX6, "gate", "(I)I"⟩
abbrev cX6_keepPast : ByteArray := prog_8_method_43_code
def yX6_keepPast : MethodName := ⟨RX6, "keepPast", "()V"⟩
abbrev cX6_doLet : ByteArray := prog_8_method_44_code
def yX6_doLet : MethodName := ⟨RX6, "doLet", "(I)I"⟩
abbrev cX6_let : ByteArray := prog_8_method_45_code
def yX6_let : MethodName := ⟨RX6, "let", "(I)I"⟩
abbrev cX6_doLeave : ByteArray := prog_8_method_46_code
def yX6_doLeave : MethodName := ⟨RX6, "doLeave", "(I)I"⟩
abbrev cX6_leave : ByteArray := prog_8_method_47_code
def yX6_leave : MethodName := ⟨RX6, "leave", "(I)I"⟩
abbrev cX6_hour : ByteArray := prog_8_method_48_code
def yX6_hour : MethodName := ⟨RX6, "hour", "()I"⟩
abbrev cX6_frost : ByteArray := prog_8_method_49_code
def yX6_frost : MethodName := ⟨RX6, "frost", "(I)I"⟩
abbrev cX6_undo : ByteArray := prog_8_method_50_code
def yX6_undo : MethodName := ⟨RX6, "undo", "(I)I"⟩
abbrev cX6_copyTown : ByteArray := prog_8_method_51_code
def yX6_copyTown : MethodName := ⟨RX6, "copyTown", "(II)V"⟩
abbrev cX6_keep : ByteArray := prog_8_method_52_code
def yX6_keep : MethodName := ⟨RX6, "keep", "(I)I"⟩
abbrev cX6_on : ByteArray := prog_8_method_53_code
def yX6_on : MethodName := ⟨RX6, "on", "(I)I"⟩
abbrev cX6_lastsTried : ByteArray := prog_8_method_54_code
def yX6_lastsTried : MethodName := ⟨RX6, "lastsTried", "()I"⟩
abbrev cX6_lasts : ByteArray := prog_8_method_55_code
def yX6_lasts : MethodName := ⟨RX6, "lasts", "()I"⟩
abbrev cX6_noRow : ByteArray := prog_8_method_56_code
def yX6_noRow : MethodName := ⟨RX6, "noRow", "(IIZ)I"⟩
abbrev cX6_wound : ByteArray := prog_8_method_57_code
def yX6_wound : MethodName := ⟨RX6, "wound", "(I)I"⟩
abbrev cX6_woundBy : ByteArray := prog_8_method_58_code
def yX6_woundBy : MethodName := ⟨RX6, "woundBy", "(I)I"⟩
abbrev cX6_isOut : ByteArray := prog_8_method_59_code
def yX6_isOut : MethodName := ⟨RX6, "isOut", "(I)Z"⟩
abbrev cX6_most : ByteArray := prog_8_method_60_code
def yX6_most : MethodName := ⟨RX6, "most", "()I"⟩
abbrev cX6_nextOrder : ByteArray := prog_8_method_61_code
def yX6_nextOrder : MethodName := ⟨RX6, "nextOrder", "(I)Z"⟩
abbrev cX6_order : ByteArray := prog_8_method_62_code
def yX6_order : MethodName := ⟨RX6, "order", "(I)I"⟩
abbrev cX6_power : ByteArray := prog_8_method_63_code
def yX6_power : MethodName := ⟨RX6, "power", "(I)I"⟩
abbrev cX6_whoOf : ByteArray := prog_8_method_64_code
def yX6_whoOf : MethodName := ⟨RX6, "whoOf", "(III)I"⟩
abbrev cX6_isLetting : ByteArray := prog_8_method_65_code
def yX6_isLetting : MethodName := ⟨RX6, "isLetting", "(II)Z"⟩
abbrev cX6_leastBread : ByteArray := prog_8_method_66_code
def yX6_leastBread : MethodName := ⟨RX6, "leastBread", "(II)I"⟩
abbrev cX6_ways : ByteArray := prog_8_method_67_code
def yX6_ways : MethodName := ⟨RX6, "ways", "(II)I"⟩
abbrev cX6_bread : ByteArray := prog_8_method_68_code
def yX6_bread : MethodName := ⟨RX6, "bread", "(III)I"⟩
abbrev cX6_goes : ByteArray := prog_8_method_69_code
def yX6_goes : MethodName := ⟨RX6, "goes", "(I)I"⟩
abbrev cX6_behind : ByteArray := prog_8_method_70_code
def yX6_behind : MethodName := ⟨RX6, "behind", "(I)I"⟩
abbrev cX6_layFits : ByteArray := prog_8_method_71_code
def yX6_layFits : MethodName := ⟨RX6, "layFits", "(I)I"⟩
abbrev cX6_fits : ByteArray := prog_8_method_72_code
def yX6_fits : MethodName := ⟨RX6, "fits", "(I)I"⟩
abbrev cX6_noFits : ByteArray := prog_8_method_73_code
def yX6_noFits : MethodName := ⟨RX6, "noFits", "(I)I"⟩
abbrev cX6_sure : ByteArray := prog_8_method_74_code
def yX6_sure : MethodName := ⟨RX6, "sure", "(I)I"⟩
abbrev cX6_greater : ByteArray := prog_8_method_75_code
def yX6_greater : MethodName := ⟨RX6, "greater", "(I)I"⟩
abbrev cX6_ask : ByteArray := prog_8_method_76_code
def yX6_ask : MethodName := ⟨RX6, "ask", "(I)I"⟩
abbrev cX6_came : ByteArray := prog_8_method_77_code
def yX6_came : MethodName := ⟨RX6, "came", "(I)I"⟩
abbrev cX6_worthOf : ByteArray := prog_8_method_78_code
def yX6_worthOf : MethodName := ⟨RX6, "worthOf", "(II)I"⟩
abbrev cX6_duel : ByteArray := prog_8_method_79_code
def yX6_duel : MethodName := ⟨RX6, "duel", "(I)I"⟩
abbrev cX6_shut : ByteArray := prog_8_method_80_code
def yX6_shut : MethodName := ⟨RX6, "shut", "(I)I"⟩
abbrev cX6_meets : ByteArray := prog_8_method_81_code
def yX6_meets : MethodName := ⟨RX6, "meets", "(I)I"⟩
abbrev cX6_check : ByteArray := prog_8_method_82_code
def yX6_check : MethodName := ⟨RX6, "check", "(I)I"⟩
abbrev cX6_tellParts : ByteArray := prog_8_method_83_code
def yX6_tellParts : MethodName := ⟨RX6, "tellParts", "(JJ)I"⟩
abbrev cX6_waysOf : ByteArray := prog_8_method_84_code
def yX6_waysOf : MethodName := ⟨RX6, "waysOf", "(II)J"⟩
abbrev cX6_odds : ByteArray := prog_8_method_85_code
def yX6_odds : MethodName := ⟨RX6, "odds", "(II)I"⟩
abbrev cX6_mid : ByteArray := prog_8_method_86_code
def yX6_mid : MethodName := ⟨RX6, "mid", "(I)I"⟩
abbrev cX6_lots : ByteArray := prog_8_method_87_code
def yX6_lots : MethodName := ⟨RX6, "lots", "(II)I"⟩
abbrev cX6_asked : ByteArray := prog_8_method_88_code
def yX6_asked : MethodName := ⟨RX6, "asked", "()I"⟩
abbrev cX6_upper : ByteArray := prog_8_method_89_code
def yX6_upper : MethodName := ⟨RX6, "upper", "()J"⟩
abbrev cX6_lower : ByteArray := prog_8_method_90_code
def yX6_lower : MethodName := ⟨RX6, "lower", "()J"⟩
abbrev cX6_strongs : ByteArray := prog_8_method_91_code
def yX6_strongs : MethodName := ⟨RX6, "strongs", "()I"⟩
abbrev cX6_thereOf : ByteArray := prog_8_method_92_code
def yX6_thereOf : MethodName := ⟨RX6, "thereOf", "(I)I"⟩
abbrev cX6_countOf : ByteArray := prog_8_method_93_code
def yX6_countOf : MethodName := ⟨RX6, "countOf", "(I)I"⟩
abbrev cX6_count : ByteArray := prog_8_method_94_code
def yX6_count : MethodName := ⟨RX6, "count", "(I)I"⟩
abbrev cX6_finding : ByteArray := prog_8_method_95_code
def yX6_finding : MethodName := ⟨RX6, "finding", "()I"⟩
abbrev cX6_findings : ByteArray := prog_8_method_96_code
def yX6_findings : MethodName := ⟨RX6, "findings", "(I)I"⟩
abbrev cX6_digest : ByteArray := prog_8_method_97_code
def yX6_digest : MethodName := ⟨RX6, "digest", "()J"⟩
def RJ6 : String := "java/lang/Integer"
def TJ6 : u_T := fun k => match k with
  | _ => ("", "", "", false)
def tyJ6 : Nat → FieldType := fun k => match k with
  | _ => .int
abbrev wsJ60 : List Cond := u_ws RJ6 TJ6 0
theorem nmJ6 : ∀ a, a < 0 → ∀ b, b < 0 → a ≠ b → (TJ6 a).2.1 ≠ (TJ6 b).2.1 := by decide +kernel
theorem tyJ6_ok : ∀ k, k < 0 → parseFieldDescriptor (TJ6 k).2.2.1 = some (tyJ6 k) := by decide +kernel
abbrev cJ6_bitCount_0f7a4 : ByteArray := prog_9_method_49_code
def yJ6_bitCount_0f7a4 : MethodName := ⟨RJ6, "bitCount", "(I)I"⟩
def RJ9 : String := "java/lang/Math"
def TJ9 : u_T := fun k => match k with
  | _ => ("", "", "", false)
def tyJ9 : Nat → FieldType := fun k => match k with
  | _ => .int
abbrev wsJ90 : List Cond := u_ws RJ9 TJ9 0
theorem nmJ9 : ∀ a, a < 0 → ∀ b, b < 0 → a ≠ b → (TJ9 a).2.1 ≠ (TJ9 b).2.1 := by decide +kernel
theorem tyJ9_ok : ∀ k, k < 0 → parseFieldDescriptor (TJ9 k).2.2.1 = some (tyJ9 k) := by decide +kernel
abbrev cJ9_max_7cf53 : ByteArray := prog_10_method_65_code
def yJ9_max_7cf53 : MethodName := ⟨RJ9, "max", "(II)I"⟩
abbrev cJ9_min_7cf53 : ByteArray := prog_10_method_69_code
def yJ9_min_7cf53 : MethodName := ⟨RJ9, "min", "(II)I"⟩
def RJ10 : String := "java/lang/System"
def TJ10 : u_T := fun k => match k with
  | _ => ("", "", "", false)
def tyJ10 : Nat → FieldType := fun k => match k with
  | _ => .int
abbrev wsJ100 : List Cond := u_ws RJ10 TJ10 0
theorem nmJ10 : ∀ a, a < 0 → ∀ b, b < 0 → a ≠ b → (TJ10 a).2.1 ≠ (TJ10 b).2.1 := by decide +kernel
theorem tyJ10_ok : ∀ k, k < 0 → parseFieldDescriptor (TJ10 k).2.2.1 = some (tyJ10 k) := by decide +kernel
def RJ7 : String := "java/util/Arrays"
def TJ7 : u_T := fun k => match k with
  | _ => ("", "", "", false)
def tyJ7 : Nat → FieldType := fun k => match k with
  | _ => .int
abbrev wsJ70 : List Cond := u_ws RJ7 TJ7 0
theorem nmJ7 : ∀ a, a < 0 → ∀ b, b < 0 → a ≠ b → (TJ7 a).2.1 ≠ (TJ7 b).2.1 := by decide +kernel
theorem tyJ7_ok : ∀ k, k < 0 → parseFieldDescriptor (TJ7 k).2.2.1 = some (tyJ7 k) := by decide +kernel
abbrev cJ7_fill_53178 : ByteArray := prog_12_method_103_code
def yJ7_fill_53178 : MethodName := ⟨RJ7, "fill", "([II)V"⟩
abbrev cJ7_fill_031fb : ByteArray := prog_12_method_109_code
def yJ7_fill_031fb : MethodName := ⟨RJ7, "fill", "([BB)V"⟩
abbrev cJ7_fill_49daa : ByteArray := prog_12_method_111_code
def yJ7_fill_49daa : MethodName := ⟨RJ7, "fill", "([ZZ)V"⟩
def RL : String := "StrangersWindLaw"
abbrev cL_law : ByteArray := code
def yL_law : MethodName := ⟨RL, "law", "([I)Z"⟩
abbrev vwCl : List vw_C := [(RX0, TX0, 8), (RX1, TX1, 9), (RX2, TX2, 5), (RX3, TX3, 3), (RX4, TX4, 15), (RX5, TX5, 17), (RX6, TX6, 29)]
end
section
/-! the world: 77 cells by number (their addresses by g.1), what they hold by one state -/
abbrev sw_St : Type := (Nat → Nat → Int32) × (Nat → Nat → Int64) × Nat
abbrev sw_G : Type := (Nat → Nat) × va_G × (Nat → ClassId)
/-- each cell's kind (0 .. 6 a class, 7 byte[], 8 int[], 9 boolean[], 10 Town[], 11 byte[][], 12 int[][]) and its length -/
def sw_lay : List (Nat × Nat) := [(5, 0), (12, 6), (8, 40), (8, 40), (8, 40), (8, 40), (8, 40), (8, 40), (8, 6), (11, 4), (7, 60), (7, 60), (7, 60), (7, 60), (8, 4),
  (4, 0), (8, 6), (8, 6), (8, 6), (8, 6), (8, 40), (8, 40),
  (4, 0), (8, 6), (8, 6), (8, 6), (8, 6), (8, 40), (8, 40),
  (10, 3),
  (4, 0), (8, 6), (8, 6), (8, 6), (8, 6), (8, 40), (8, 40),
  (4, 0), (8, 6), (8, 6), (8, 6), (8, 6), (8, 40), (8, 40),
  (4, 0), (8, 6), (8, 6), (8, 6), (8, 6), (8, 40), (8, 40),
  (9, 3), (3, 0), (7, 0), (1, 0), (8, 5), (8, 5), (2, 0), (8, 6), (8, 6), (0, 0), (8, 6), (8, 6),
  (6, 0), (8, 835), (8, 6), (8, 6), (8, 6), (8, 6), (8, 240), (8, 4), (8, 240), (8, 6), (8, 24), (8, 6), (9, 64), (8, 2401)]
def sw_kd (i : Nat) : Nat := (sw_lay.getD i (99, 0)).1
def sw_ln (i : Nat) : Nat := (sw_lay.getD i (99, 0)).2
/-- a field's sort: 0 int, 1 long, 2 a reference -/
def sw_fkT : List (List Nat) := [[2, 0, 0, 0, 0, 0, 0, 2], [2, 0, 0, 2, 2, 0, 0, 0, 0], [2, 2, 2, 0, 0], [2, 0, 0], [0, 2, 2, 2, 2, 0, 0, 0, 0, 0, 0, 0, 2, 2, 0],
  [2, 2, 2, 2, 2, 2, 2, 2, 2, 2, 2, 2, 2, 0, 0, 1, 1], [2, 0, 2, 2, 2, 2, 2, 2, 2, 0, 1, 1, 0, 2, 0, 0, 0, 0, 0, 2, 0, 0, 2, 0, 0, 0, 0, 2, 2]]
def sw_fk (ci k : Nat) : Nat := (sw_fkT.getD ci []).getD k 9
/-- where a class's reference fields lead: a number, or (a Town's) how far behind the Town -/
def sw_rlT : List (List Nat) := [[15, 0, 0, 0, 0, 0, 0, 61], [15, 0, 0, 55, 56, 0, 0, 0, 0], [15, 58, 59, 0, 0], [0, 0, 0], [0, 1, 2, 3, 4, 0, 0, 0, 0, 0, 0, 0, 5, 6, 0],
  [1, 8, 9, 14, 15, 22, 29, 51, 52, 54, 57, 60, 62, 0, 0, 0, 0], [64, 0, 65, 66, 67, 68, 69, 70, 71, 0, 0, 0, 0, 72, 0, 0, 0, 0, 0, 73, 0, 0, 74, 0, 0, 0, 0, 75, 76]]
def sw_rl (ci k : Nat) : Nat := (sw_rlT.getD ci []).getD k 0
def sw_rf (st : sw_St) (o k : Nat) : Nat := if sw_kd o = 3 then st.2.2 else if sw_kd o = 4 then o + sw_rl 4 k else sw_rl (sw_kd o) k
def sw_nf (ci : Nat) : Nat := (sw_fkT.getD ci []).length
def sw_fv (g : sw_G) (st : sw_St) (o k : Nat) : Value := if sw_fk (sw_kd o) k = 0 then .int (st.1 o k) else if sw_fk (sw_kd o) k = 1 then .long (st.2.1 o k) else .ref (g.1 (sw_rf st o k))
/-- what the arrays of references hold -/
def sw_ra (i j : Nat) : Nat := if sw_kd i = 12 then 2 + j else if sw_kd i = 11 then 10 + j else 30 + 7 * j
def sw_cell (g : sw_G) (st : sw_St) (i : Nat) : va_E :=
  if sw_kd i < 7 then .inr (sw_kd i, (List.range (sw_nf (sw_kd i))).map (sw_fv g st i))
  else if sw_kd i < 10 then .inl (g.2.2 (sw_kd i), sw_ln i, .inl (st.1 i))
  else .inl (g.2.2 (sw_kd i), sw_ln i, .inr (.inr (.inr (.inr (fun j => some (g.1 (sw_ra i j)))))))
def sw_W (g : sw_G) (st : sw_St) : va_W := (List.range 77).map (fun i => (g.1 i, sw_cell g st i))
def sw_tys (g : sw_G) : List (ClassId × FieldType) := [(g.2.2 7, .byte), (g.2.2 8, .int), (g.2.2 9, .boolean), (g.2.2 10, .object "StrangersWind$Town"), (g.2.2 11, .array .byte), (g.2.2 12, .array .int)]
def sw_setC (st : sw_St) (o k : Nat) (v : Int32) : sw_St := (va_up st.1 o (upd (st.1 o) k v), st.2)
def sw_setA (st : sw_St) (o : Nat) (f : Nat → Int32) : sw_St := (va_up st.1 o f, st.2)
def sw_setJ (st : sw_St) (o k : Nat) (v : Int64) : sw_St := (st.1, va_up st.2.1 o (vp_updL (st.2.1 o) k v), st.2.2)
def sw_setB (st : sw_St) (b : Nat) : sw_St := (st.1, st.2.1, b)
def sw_Inj (g : sw_G) : Prop := ∀ i j, i < 77 → j < 77 → g.1 i = g.1 j → i = j
def sw_A (g : sw_G) (sz : Nat) : Nat → Prop := fun q => (∃ i, i < 77 ∧ q = g.1 i) ∨ sz ≤ q
theorem sw_lt {i : Nat} (h : sw_kd i < 13) : i < 77 := by
  rcases Nat.lt_or_ge i 77 with q | q
  · exact q
  · exfalso
    have e : sw_lay[i]? = none := List.getElem?_eq_none (by show 77 ≤ i; exact q)
    unfold sw_kd at h
    rw [List.getD_eq_getElem?_getD, e] at h
    exact absurd h (by decide)
theorem sw_ltk {i k : Nat} (h : sw_kd i = k) (hk : k < 13) : i < 77 := sw_lt (by rw [h]; exact hk)
theorem sw_W_get (g : sw_G) (st : sw_St) {i : Nat} (h : i < 77) : (sw_W g st)[i]? = some (g.1 i, sw_cell g st i) := by
  unfold sw_W
  rw [List.getElem?_map, List.getElem?_range h]
  rfl
theorem sw_W_len (g : sw_G) (st : sw_St) : (sw_W g st).length = 77 := by
  unfold sw_W
  rw [List.length_map, List.length_range]
theorem sw_W_set (g : sw_G) (st st' : sw_St) {o : Nat} (ho : o < 77) (e : va_E) (he : sw_cell g st' o = e) (hn : ∀ i, i ≠ o → sw_cell g st' i = sw_cell g st i) : (sw_W g st).set o (g.1 o, e) = sw_W g st' := by
  apply List.ext_getElem?
  intro i
  rw [List.getElem?_set]
  by_cases h : o = i
  · subst h
    rw [if_pos rfl, sw_W_len, if_pos ho, sw_W_get g st' ho, he]
  · rw [if_neg h]
    rcases Nat.lt_or_ge i 77 with q | q
    · rw [sw_W_get g st q, sw_W_get g st' q, hn i (fun e => h e.symm)]
    · rw [List.getElem?_eq_none (by rw [sw_W_len]; exact q), List.getElem?_eq_none (by rw [sw_W_len]; exact q)]
theorem sw_W_D (g : sw_G) (A : Nat → Prop) (hi : sw_Inj g) (hA : ∀ i, i < 77 → A (g.1 i)) (st : sw_St) : va_D A (sw_W g st) := by
  have key : ∀ (k : Nat) (q : Nat × va_E), (sw_W g st)[k]? = some q → k < 77 ∧ q.1 = g.1 k := by
    intro k q h
    have hl : k < 77 := by
      have := (List.getElem?_eq_some_iff.mp h).1
      rwa [sw_W_len] at this
    rw [sw_W_get g st hl] at h
    cases h
    exact ⟨hl, rfl⟩
  refine ⟨fun i j p q h1 h2 e => ?_, fun k q h => ?_⟩
  · obtain ⟨a1, a2⟩ := key i p h1
    obtain ⟨b1, b2⟩ := key j q h2
    exact hi i j a1 b1 (by rw [← a2, ← b2]; exact e)
  · obtain ⟨a1, a2⟩ := key k q h
    rw [a2]
    exact hA k a1
theorem sw_fs_set (n k : Nat) (f f' : Nat → Value) (v : Value) (hk : f' k = v) (hne : ∀ j, j ≠ k → f' j = f j) : ((List.range n).map f).set k v = (List.range n).map f' := by
  apply List.ext_getElem?
  intro i
  rw [List.getElem?_set]
  by_cases h : k = i
  · subst h
    rw [if_pos rfl, List.length_map, List.length_range]
    by_cases q : k < n
    · rw [if_pos q, List.getElem?_map, List.getElem?_range q]
      show some v = some (f' k)
      rw [hk]
    · rw [if_neg q, List.getElem?_eq_none (by rw [List.length_map, List.length_range]; omega)]
  · rw [if_neg h]
    by_cases q : i < n
    · rw [List.getElem?_map, List.getElem?_range q, List.getElem?_map, List.getElem?_range q]
      show some (f i) = some (f' i)
      rw [hne i (fun e => h e.symm)]
    · rw [List.getElem?_eq_none (by rw [List.length_map, List.length_range]; omega), List.getElem?_eq_none (by rw [List.length_map, List.length_range]; omega)]
theorem sw_cell_congr (g : sw_G) {st st' : sw_St} {i : Nat} (h1 : st'.1 i = st.1 i) (h2 : st'.2.1 i = st.2.1 i) (h3 : sw_kd i = 3 → st'.2.2 = st.2.2) : sw_cell g st' i = sw_cell g st i := by
  have e : sw_fv g st' i = sw_fv g st i := by
    funext k
    unfold sw_fv sw_rf
    rw [h1, h2]
    by_cases q : sw_kd i = 3
    · rw [if_pos q, if_pos q, h3 q]
    · rw [if_neg q, if_neg q]
  unfold sw_cell
  rw [e, h1]
theorem sw_cell_o (g : sw_G) (st : sw_St) {o ci : Nat} (h : sw_kd o = ci) (hc : ci < 7) : sw_cell g st o = .inr (ci, (List.range (sw_nf ci)).map (sw_fv g st o)) := by
  subst h
  unfold sw_cell
  rw [if_pos hc]
theorem sw_cell_a (g : sw_G) (st : sw_St) {a k n : Nat} (h : sw_kd a = k) (hn : sw_ln a = n) (hc : 7 ≤ k) (hc2 : k < 10) : sw_cell g st a = .inl (g.2.2 k, n, .inl (st.1 a)) := by
  subst h hn
  unfold sw_cell
  rw [if_neg (by omega), if_pos hc2]
theorem sw_cell_q (g : sw_G) (st : sw_St) {a k n : Nat} (h : sw_kd a = k) (hn : sw_ln a = n) (hc : 10 ≤ k) : sw_cell g st a = .inl (g.2.2 k, n, .inr (.inr (.inr (.inr (fun j => some (g.1 (sw_ra a j))))))) := by
  subst h hn
  unfold sw_cell
  rw [if_neg (by omega), if_neg (by omega)]
theorem sw_set_a (g : sw_G) (st : sw_St) {a k n : Nat} (h : sw_kd a = k) (hn : sw_ln a = n) (hc : 7 ≤ k) (hc2 : k < 10) (f : Nat → Int32) : (sw_W g st).set a (g.1 a, .inl (g.2.2 k, n, .inl f)) = sw_W g (sw_setA st a f) := by
  refine sw_W_set g st _ (sw_ltk h (by omega)) _ ?_ ?_
  · rw [sw_cell_a g _ h hn hc hc2]
    show Sum.inl (g.2.2 k, n, Sum.inl (va_up st.1 a f a)) = _
    rw [show (va_up st.1 a f) a = f from if_pos rfl]
  · intro i hi
    exact sw_cell_congr g (if_neg hi) rfl (fun _ => rfl)
theorem sw_setC_A (st : sw_St) (a i : Nat) (v : Int32) : sw_setA st a (upd (st.1 a) i v) = sw_setC st a i v := rfl
theorem sw_set_i (g : sw_G) (st : sw_St) {o ci k : Nat} (h : sw_kd o = ci) (hc : ci < 7) (hf : sw_fk ci k = 0) (v : Int32) : (sw_W g st).set o (g.1 o, .inr (ci, ((List.range (sw_nf ci)).map (sw_fv g st o)).set k (.int v))) = sw_W g (sw_setC st o k v) := by
  refine sw_W_set g st _ (sw_ltk h (by omega)) _ ?_ ?_
  · rw [sw_cell_o g _ h hc]
    congr 2
    symm
    refine sw_fs_set _ _ _ _ _ ?_ ?_
    · unfold sw_fv
      rw [h, if_pos hf]
      show Value.int ((va_up st.1 o (upd (st.1 o) k v)) o k) = _
      rw [show (va_up st.1 o (upd (st.1 o) k v)) o = upd (st.1 o) k v from if_pos rfl, show upd (st.1 o) k v k = v from if_pos rfl]
    · intro j hj
      unfold sw_fv sw_rf
      show (if sw_fk (sw_kd o) j = 0 then Value.int ((va_up st.1 o (upd (st.1 o) k v)) o j) else _) = _
      rw [show (va_up st.1 o (upd (st.1 o) k v)) o = upd (st.1 o) k v from if_pos rfl, show upd (st.1 o) k v j = st.1 o j from if_neg hj]
      rfl
  · intro i hi
    exact sw_cell_congr g (if_neg hi) rfl (fun _ => rfl)
theorem sw_set_l (g : sw_G) (st : sw_St) {o ci k : Nat} (h : sw_kd o = ci) (hc : ci < 7) (hf : sw_fk ci k = 1) (v : Int64) : (sw_W g st).set o (g.1 o, .inr (ci, ((List.range (sw_nf ci)).map (sw_fv g st o)).set k (.long v))) = sw_W g (sw_setJ st o k v) := by
  refine sw_W_set g st _ (sw_ltk h (by omega)) _ ?_ ?_
  · rw [sw_cell_o g _ h hc]
    congr 2
    symm
    refine sw_fs_set _ _ _ _ _ ?_ ?_
    · unfold sw_fv
      rw [h, if_neg (by omega), if_pos hf]
      show Value.long ((va_up st.2.1 o (vp_updL (st.2.1 o) k v)) o k) = _
      rw [show (va_up st.2.1 o (vp_updL (st.2.1 o) k v)) o = vp_updL (st.2.1 o) k v from if_pos rfl, show vp_updL (st.2.1 o) k v k = v from if_pos rfl]
    · intro j hj
      unfold sw_fv sw_rf
      show (if sw_fk (sw_kd o) j = 0 then Value.int (st.1 o j) else if sw_fk (sw_kd o) j = 1 then Value.long ((va_up st.2.1 o (vp_updL (st.2.1 o) k v)) o j) else _) = _
      rw [show (va_up st.2.1 o (vp_updL (st.2.1 o) k v)) o = vp_updL (st.2.1 o) k v from if_pos rfl, show vp_updL (st.2.1 o) k v j = st.2.1 o j from if_neg hj]
      rfl
  · intro i hi
    exact sw_cell_congr g rfl (if_neg hi) (fun _ => rfl)
theorem sw_kd3 {i : Nat} (h : sw_kd i = 3) : i = 52 := by
  have hl := sw_ltk h (by decide)
  exact (by decide : ∀ i : Fin 77, sw_kd i.val = 3 → i.val = 52) ⟨i, hl⟩ h
theorem sw_set_b (g : sw_G) (st : sw_St) (b : Nat) : (sw_W g st).set 52 (g.1 52, .inr (3, ((List.range (sw_nf 3)).map (sw_fv g st 52)).set 0 (.ref (g.1 b)))) = sw_W g (sw_setB st b) := by
  refine sw_W_set g st _ (by decide) _ ?_ ?_
  · rw [sw_cell_o g _ (show sw_kd 52 = 3 from rfl) (by decide)]
    rfl
  · intro i hi
    exact sw_cell_congr g rfl rfl (fun h => absurd (sw_kd3 h) hi)
theorem sw_fvI (g : sw_G) (st : sw_St) {o ci k : Nat} (h : sw_kd o = ci) (hf : sw_fk ci k = 0) : sw_fv g st o k = .int (st.1 o k) := by
  unfold sw_fv
  rw [h, if_pos hf]
theorem sw_fvL (g : sw_G) (st : sw_St) {o ci k : Nat} (h : sw_kd o = ci) (hf : sw_fk ci k = 1) : sw_fv g st o k = .long (st.2.1 o k) := by
  unfold sw_fv
  rw [h, if_neg (by omega), if_pos hf]
theorem sw_fvR (g : sw_G) (st : sw_St) {o ci k : Nat} (h : sw_kd o = ci) (hf : sw_fk ci k = 2) : sw_fv g st o k = .ref (g.1 (sw_rf st o k)) := by
  unfold sw_fv
  rw [h, if_neg (by omega), if_neg (by omega)]
theorem sw_rfT (st : sw_St) {t k : Nat} (h : sw_kd t = 4) : sw_rf st t k = t + sw_rl 4 k := by
  unfold sw_rf
  rw [if_neg (by omega), if_pos h]
theorem sw_tw {t : Nat} (h : sw_kd t = 4) : t = 15 ∨ t = 22 ∨ t = 30 ∨ t = 37 ∨ t = 44 := by
  have hl := sw_ltk h (by decide)
  exact (by decide : ∀ t : Fin 77, sw_kd t.val = 4 → t.val = 15 ∨ t.val = 22 ∨ t.val = 30 ∨ t.val = 37 ∨ t.val = 44) ⟨t, hl⟩ h
theorem sw_tw1 {t : Nat} (h : sw_kd t = 4) (k : Nat) (hk : k < 6) : sw_kd (t + (k + 1)) = 8 ∧ sw_ln (t + (k + 1)) = if k < 4 then 6 else 40 := by
  have hk' : k = 0 ∨ k = 1 ∨ k = 2 ∨ k = 3 ∨ k = 4 ∨ k = 5 := by omega
  rcases sw_tw h with rfl | rfl | rfl | rfl | rfl <;> rcases hk' with rfl | rfl | rfl | rfl | rfl | rfl <;> exact ⟨rfl, rfl⟩
end
section
def sw_tbl : List Cond := lw_tbl.filter goodWord
theorem sw_mem {w : Cond} (h : w ∈ lw_tbl) (hg : goodWord w = true) : w ∈ sw_tbl := List.mem_filter.mpr ⟨h, hg⟩
def sw_rm (d : Nat) : Room := { frames := d, cells := 0, slots := 0, locals := 64 * d }
def sw_V (p : Program) (l : Launch) (e : Env) (d : Nat) (s : State) (m : MethodId) (args : Array Value) (below : List Frame) (meth : Method) (c : Code) (g : sw_G) (A : Nat → Prop) (Q : State → Prop) (nL pc : Nat) (lo : List (Nat × Value)) (stk : List Value) (st : sw_St) : Prop :=
  ∀ (H : Heap) (lcs : List Loc) (ls : Array Slot), va_P g.2.1 vwCl (sw_W g st) H → va_S A s.heap H lcs → lv_has ls nL lo → W p l e (sw_rm d) s m args below meth c H lcs 0 0 Q (F0 m pc ls stk)
def sw_Ok (p : Program) (s : State) (m : MethodId) (args : Array Value) (c : Code) (cc : ByteArray) (own : String) (nL : Nat) (g : sw_G) (A : Nat → Prop) : Prop :=
  p.tables.exec = Jvm.exec ∧ c.code = cc ∧ c.maxLocals = nL ∧ s.vm.findClass own = some m.cls ∧ (∀ w ∈ sw_tbl, w.before args s = true) ∧ va_K g.2.1 vwCl (sw_tys g) s ∧ sw_Inj g ∧ (∀ i, i < 77 → A (g.1 i)) ∧ (∀ q, s.heap.size ≤ q → A q)
theorem sw_good {cw : Cond} (h : cw ∈ sw_tbl) : GoodIn sw_tbl (cw :: sw_tbl) := by
  have key : ∀ w ∈ sw_tbl, w ∈ sw_tbl ∧ ((w.onTables && w.keeps) = true ∨ ∃ ty, w = .arrayClass ty) := fun w hw => ⟨hw, good_of_word (List.mem_filter.mp hw).2⟩
  intro w hw
  rcases List.mem_cons.mp hw with rfl | hw
  · exact key _ h
  · exact key _ hw
/-! words of a computation: a name, a join, a loop, a bound, a call -/
def nm {α β : Type} (x : α) (k : α → β) : β := k x
theorem nm_E {α β : Type} {x : α} {k : α → Option β} {r : β} (h : nm x k = some r) {y : α} (hy : y = x) : k y = some r := by subst hy; exact h
def bnd {β : Type} (i : Int32) (n : Nat) (k : Option β) : Option β := if i < 0 ∨ n ≤ i.toNatClampNeg then none else k
theorem bnd_E {β : Type} {i : Int32} {n : Nat} {k : Option β} {r : β} (h : bnd i n k = some r) : vp_in i n ∧ k = some r := by
  unfold bnd at h
  by_cases q : i < 0 ∨ n ≤ i.toNatClampNeg
  · rw [if_pos q] at h; cases h
  · rw [if_neg q] at h; exact ⟨q, h⟩
theorem ite_T {β : Type} {c : Prop} {i : Decidable c} {a b : Option β} {r : β} (h : @ite _ c i a b = some r) (hc : c) : a = some r := by rw [if_pos hc] at h; exact h
theorem ite_F {β : Type} {c : Prop} {i : Decidable c} {a b : Option β} {r : β} (h : @ite _ c i a b = some r) (hc : ¬ c) : b = some r := by rw [if_neg hc] at h; exact h
def grd {β : Type} (c : Prop) [Decidable c] (k : Option β) : Option β := if c then k else none
theorem grd_E {β : Type} {c : Prop} [Decidable c] {k : Option β} {r : β} (h : grd c k = some r) : c ∧ k = some r := by
  unfold grd at h
  by_cases q : c
  · rw [if_pos q] at h; exact ⟨q, h⟩
  · rw [if_neg q] at h; cases h
def bd {α σ β : Type} (o : Option (α × σ)) (k : α → σ → Option β) : Option β := match o with
  | none => none
  | some (a, t) => k a t
theorem bd_E {α σ β : Type} {o : Option (α × σ)} {k : α → σ → Option β} {r : β} (h : bd o k = some r) : ∃ a t, o = some (a, t) ∧ k a t = some r := by
  cases o with
  | none => cases h
  | some q => exact ⟨q.1, q.2, rfl, h⟩
def lp {σ β : Type} (body : (σ → Option β) → σ → Option β) : Nat → σ → Option β
  | 0, _ => none
  | n + 1, t => body (lp body n) t
theorem lp_E {σ β : Type} {body : (σ → Option β) → σ → Option β} {r : β} (G : σ → Prop) (hs : ∀ (f : σ → Option β), (∀ t, f t = some r → G t) → ∀ t, body f t = some r → G t) : ∀ (n : Nat) (t : σ), lp body n t = some r → G t
  | 0, _, h => by cases h
  | n + 1, t, h => hs (lp body n) (lp_E G hs n) t h
def jn {κ β : Type} (k : κ) (body : κ → Option β) : Option β := body k

section SWR
variable {p : Program} {l : Launch} {e : Env} {d : Nat} {s : State} {m : MethodId} {args : Array Value} {below : List Frame} {meth : Method} {c : Code} {cc : ByteArray} {own : String} {nL : Nat} {g : sw_G} {A : Nat → Prop} {Q : State → Prop} {pc : Nat} {lo : List (Nat × Value)} {rest : List Value} {st : sw_St}
theorem sw_iadd (X : sw_Ok p s m args c cc own nL g A) {x y : Int32} (dg : decode cc pc = .ok (.iadd, 1)) (k : sw_V p l e d s m args below meth c g A Q nL (pc + 1) lo (.int (x + y) :: rest) st) : sw_V p l e d s m args below meth c g A Q nL pc lo (.int y :: .int x :: rest) st := fun H lcs ls hP hS hl => lv_iadd X.1 X.2.1 dg (k H lcs ls hP hS hl)
theorem sw_isub (X : sw_Ok p s m args c cc own nL g A) {x y : Int32} (dg : decode cc pc = .ok (.isub, 1)) (k : sw_V p l e d s m args below meth c g A Q nL (pc + 1) lo (.int (x - y) :: rest) st) : sw_V p l e d s m args below meth c g A Q nL pc lo (.int y :: .int x :: rest) st := fun H lcs ls hP hS hl => lv_isub X.1 X.2.1 dg (k H lcs ls hP hS hl)
theorem sw_imul (X : sw_Ok p s m args c cc own nL g A) {x y : Int32} (dg : decode cc pc = .ok (.imul, 1)) (k : sw_V p l e d s m args below meth c g A Q nL (pc + 1) lo (.int (x * y) :: rest) st) : sw_V p l e d s m args below meth c g A Q nL pc lo (.int y :: .int x :: rest) st := fun H lcs ls hP hS hl => lv_imul X.1 X.2.1 dg (k H lcs ls hP hS hl)
theorem sw_iand (X : sw_Ok p s m args c cc own nL g A) {x y : Int32} (dg : decode cc pc = .ok (.iand, 1)) (k : sw_V p l e d s m args below meth c g A Q nL (pc + 1) lo (.int (x &&& y) :: rest) st) : sw_V p l e d s m args below meth c g A Q nL pc lo (.int y :: .int x :: rest) st := fun H lcs ls hP hS hl => lv_iand X.1 X.2.1 dg (k H lcs ls hP hS hl)
theorem sw_ior (X : sw_Ok p s m args c cc own nL g A) {x y : Int32} (dg : decode cc pc = .ok (.ior, 1)) (k : sw_V p l e d s m args below meth c g A Q nL (pc + 1) lo (.int (x ||| y) :: rest) st) : sw_V p l e d s m args below meth c g A Q nL pc lo (.int y :: .int x :: rest) st := fun H lcs ls hP hS hl => lv_ior X.1 X.2.1 dg (k H lcs ls hP hS hl)
theorem sw_ixor (X : sw_Ok p s m args c cc own nL g A) {x y : Int32} (dg : decode cc pc = .ok (.ixor, 1)) (k : sw_V p l e d s m args below meth c g A Q nL (pc + 1) lo (.int (x ^^^ y) :: rest) st) : sw_V p l e d s m args below meth c g A Q nL pc lo (.int y :: .int x :: rest) st := fun H lcs ls hP hS hl => lv_ixor X.1 X.2.1 dg (k H lcs ls hP hS hl)
theorem sw_ishl (X : sw_Ok p s m args c cc own nL g A) {x y : Int32} (dg : decode cc pc = .ok (.ishl, 1)) (k : sw_V p l e d s m args below meth c g A Q nL (pc + 1) lo (.int (x <<< (y &&& 31)) :: rest) st) : sw_V p l e d s m args below meth c g A Q nL pc lo (.int y :: .int x :: rest) st := fun H lcs ls hP hS hl => lv_ishl X.1 X.2.1 dg (k H lcs ls hP hS hl)
theorem sw_ishr (X : sw_Ok p s m args c cc own nL g A) {x y : Int32} (dg : decode cc pc = .ok (.ishr, 1)) (k : sw_V p l e d s m args below meth c g A Q nL (pc + 1) lo (.int (x >>> (y &&& 31)) :: rest) st) : sw_V p l e d s m args below meth c g A Q nL pc lo (.int y :: .int x :: rest) st := fun H lcs ls hP hS hl => lv_ishr X.1 X.2.1 dg (k H lcs ls hP hS hl)
theorem sw_iushr (X : sw_Ok p s m args c cc own nL g A) {x y : Int32} (dg : decode cc pc = .ok (.iushr, 1)) (k : sw_V p l e d s m args below meth c g A Q nL (pc + 1) lo (.int ((x.toUInt32 >>> (y.toUInt32 &&& Int32.toUInt32 31)).toInt32) :: rest) st) : sw_V p l e d s m args below meth c g A Q nL pc lo (.int y :: .int x :: rest) st := fun H lcs ls hP hS hl => lv_iushr X.1 X.2.1 dg rfl (k H lcs ls hP hS hl)
theorem sw_idiv (X : sw_Ok p s m args c cc own nL g A) {x y : Int32} (hne : ¬ y = 0) (dg : decode cc pc = .ok (.idiv, 1)) (k : sw_V p l e d s m args below meth c g A Q nL (pc + 1) lo (.int (x / y) :: rest) st) : sw_V p l e d s m args below meth c g A Q nL pc lo (.int y :: .int x :: rest) st := fun H lcs ls hP hS hl => lv_idiv X.1 X.2.1 dg hne (k H lcs ls hP hS hl)
theorem sw_irem (X : sw_Ok p s m args c cc own nL g A) {x y : Int32} (hne : ¬ y = 0) (dg : decode cc pc = .ok (.irem, 1)) (k : sw_V p l e d s m args below meth c g A Q nL (pc + 1) lo (.int (x - x / y * y) :: rest) st) : sw_V p l e d s m args below meth c g A Q nL pc lo (.int y :: .int x :: rest) st := fun H lcs ls hP hS hl => lv_irem X.1 X.2.1 dg hne (k H lcs ls hP hS hl)
theorem sw_ldiv (X : sw_Ok p s m args c cc own nL g A) {x y : Int64} (hne : ¬ y = 0) (dg : decode cc pc = .ok (.ldiv, 1)) (k : sw_V p l e d s m args below meth c g A Q nL (pc + 1) lo (.long (x / y) :: rest) st) : sw_V p l e d s m args below meth c g A Q nL pc lo (.long y :: .long x :: rest) st := fun H lcs ls hP hS hl => lv_ldiv X.1 X.2.1 dg hne (k H lcs ls hP hS hl)
theorem sw_lrem (X : sw_Ok p s m args c cc own nL g A) {x y : Int64} (hne : ¬ y = 0) (dg : decode cc pc = .ok (.lrem, 1)) (k : sw_V p l e d s m args below meth c g A Q nL (pc + 1) lo (.long (x - x / y * y) :: rest) st) : sw_V p l e d s m args below meth c g A Q nL pc lo (.long y :: .long x :: rest) st := fun H lcs ls hP hS hl => lv_lrem X.1 X.2.1 dg hne (k H lcs ls hP hS hl)
theorem sw_ladd (X : sw_Ok p s m args c cc own nL g A) {x y : Int64} (dg : decode cc pc = .ok (.ladd, 1)) (k : sw_V p l e d s m args below meth c g A Q nL (pc + 1) lo (.long (x + y) :: rest) st) : sw_V p l e d s m args below meth c g A Q nL pc lo (.long y :: .long x :: rest) st := fun H lcs ls hP hS hl => lv_ladd X.1 X.2.1 dg (k H lcs ls hP hS hl)
theorem sw_lsub (X : sw_Ok p s m args c cc own nL g A) {x y : Int64} (dg : decode cc pc = .ok (.lsub, 1)) (k : sw_V p l e d s m args below meth c g A Q nL (pc + 1) lo (.long (x - y) :: rest) st) : sw_V p l e d s m args below meth c g A Q nL pc lo (.long y :: .long x :: rest) st := fun H lcs ls hP hS hl => lv_lsub X.1 X.2.1 dg (k H lcs ls hP hS hl)
theorem sw_lmul (X : sw_Ok p s m args c cc own nL g A) {x y : Int64} (dg : decode cc pc = .ok (.lmul, 1)) (k : sw_V p l e d s m args below meth c g A Q nL (pc + 1) lo (.long (x * y) :: rest) st) : sw_V p l e d s m args below meth c g A Q nL pc lo (.long y :: .long x :: rest) st := fun H lcs ls hP hS hl => lv_lmul X.1 X.2.1 dg (k H lcs ls hP hS hl)
theorem sw_lcmp (X : sw_Ok p s m args c cc own nL g A) {x y : Int64} (dg : decode cc pc = .ok (.lcmp, 1)) (k : sw_V p l e d s m args below meth c g A Q nL (pc + 1) lo (.int (lg_cmp x y) :: rest) st) : sw_V p l e d s m args below meth c g A Q nL pc lo (.long y :: .long x :: rest) st := fun H lcs ls hP hS hl => W.lcmp X.1 X.2.1 dg (k H lcs ls hP hS hl)
theorem sw_ineg (X : sw_Ok p s m args c cc own nL g A) {x : Int32} (dg : decode cc pc = .ok (.ineg, 1)) (k : sw_V p l e d s m args below meth c g A Q nL (pc + 1) lo (.int (-x) :: rest) st) : sw_V p l e d s m args below meth c g A Q nL pc lo (.int x :: rest) st := fun H lcs ls hP hS hl => lv_ineg X.1 X.2.1 dg (k H lcs ls hP hS hl)
theorem sw_i2l (X : sw_Ok p s m args c cc own nL g A) {x : Int32} (dg : decode cc pc = .ok (.i2l, 1)) (k : sw_V p l e d s m args below meth c g A Q nL (pc + 1) lo (.long x.toInt64 :: rest) st) : sw_V p l e d s m args below meth c g A Q nL pc lo (.int x :: rest) st := fun H lcs ls hP hS hl => lv_i2l X.1 X.2.1 dg rfl (k H lcs ls hP hS hl)
theorem sw_l2i (X : sw_Ok p s m args c cc own nL g A) {x : Int64} (dg : decode cc pc = .ok (.l2i, 1)) (k : sw_V p l e d s m args below meth c g A Q nL (pc + 1) lo (.int x.toInt32 :: rest) st) : sw_V p l e d s m args below meth c g A Q nL pc lo (.long x :: rest) st := fun H lcs ls hP hS hl => lv_l2i X.1 X.2.1 dg rfl (k H lcs ls hP hS hl)
theorem sw_i2b (X : sw_Ok p s m args c cc own nL g A) {x : Int32} (dg : decode cc pc = .ok (.i2b, 1)) (k : sw_V p l e d s m args below meth c g A Q nL (pc + 1) lo (.int x.toInt8.toInt32 :: rest) st) : sw_V p l e d s m args below meth c g A Q nL pc lo (.int x :: rest) st := fun H lcs ls hP hS hl => lv_i2b X.1 X.2.1 dg rfl (k H lcs ls hP hS hl)
theorem sw_iconst (X : sw_Ok p s m args c cc own nL g A) {n : Int} {v : Int32} (hv : Int32.ofInt n = v) (dg : decode cc pc = .ok (.iconst n, 1)) (k : sw_V p l e d s m args below meth c g A Q nL (pc + 1) lo (.int v :: rest) st) : sw_V p l e d s m args below meth c g A Q nL pc lo rest st := fun H lcs ls hP hS hl => lv_iconst X.1 X.2.1 dg hv (k H lcs ls hP hS hl)
theorem sw_bipush (X : sw_Ok p s m args c cc own nL g A) {n : Int} {v : Int32} (hv : (Int8.ofInt n).toInt32 = v) (dg : decode cc pc = .ok (.bipush n, 2)) (k : sw_V p l e d s m args below meth c g A Q nL (pc + 2) lo (.int v :: rest) st) : sw_V p l e d s m args below meth c g A Q nL pc lo rest st := fun H lcs ls hP hS hl => lv_bipush X.1 X.2.1 dg hv (k H lcs ls hP hS hl)
theorem sw_sipush (X : sw_Ok p s m args c cc own nL g A) {n : Int} {v : Int32} (hv : (Int16.ofInt n).toInt32 = v) (dg : decode cc pc = .ok (.sipush n, 3)) (k : sw_V p l e d s m args below meth c g A Q nL (pc + 3) lo (.int v :: rest) st) : sw_V p l e d s m args below meth c g A Q nL pc lo rest st := fun H lcs ls hP hS hl => lv_sipush X.1 X.2.1 dg hv (k H lcs ls hP hS hl)
theorem sw_lconst (X : sw_Ok p s m args c cc own nL g A) {n : Fin 2} {v : Int64} (hv : Int64.ofNat n = v) (dg : decode cc pc = .ok (.lconst n, 1)) (k : sw_V p l e d s m args below meth c g A Q nL (pc + 1) lo (.long v :: rest) st) : sw_V p l e d s m args below meth c g A Q nL pc lo rest st := fun H lcs ls hP hS hl => lv_lconst X.1 X.2.1 dg hv (k H lcs ls hP hS hl)
theorem sw_ldc2 (X : sw_Ok p s m args c cc own nL g A) {index : Nat} {v : Int64} (hc : Cond.constantLong own index v ∈ sw_tbl) (dg : decode cc pc = .ok (.ldc2_w index, 3)) (k : sw_V p l e d s m args below meth c g A Q nL (pc + 3) lo (.long v :: rest) st) : sw_V p l e d s m args below meth c g A Q nL pc lo rest st := fun H lcs ls hP hS hl => lv_ldc2 X.1 X.2.1 X.2.2.2.1 (X.2.2.2.2.1 _ hc) dg (k H lcs ls hP hS hl)
theorem sw_ldcw (X : sw_Ok p s m args c cc own nL g A) {index : Nat} {v : Int32} (hc : Cond.constant own index v ∈ sw_tbl) (dg : decode cc pc = .ok (.ldc_w index, 3)) (k : sw_V p l e d s m args below meth c g A Q nL (pc + 3) lo (.int v :: rest) st) : sw_V p l e d s m args below meth c g A Q nL pc lo rest st := fun H lcs ls hP hS hl => lv_ldcw X.1 X.2.1 X.2.2.2.1 (X.2.2.2.2.1 _ hc) dg (k H lcs ls hP hS hl)
theorem sw_iload_n (X : sw_Ok p s m args c cc own nL g A) (q : Nat) {n : Fin 4} {i : Nat} {x : Int32} (hl0 : lo[q]? = some (i, .int x)) (hi : (n : Nat) = i) (dg : decode cc pc = .ok (.iload_n n, 1)) (k : sw_V p l e d s m args below meth c g A Q nL (pc + 1) lo (.int x :: rest) st) : sw_V p l e d s m args below meth c g A Q nL pc lo rest st := fun H lcs ls hP hS hl => lv_iload_n X.1 X.2.1 dg hi (lv_at hl q hl0) (k H lcs ls hP hS hl)
theorem sw_iload (X : sw_Ok p s m args c cc own nL g A) (q : Nat) {i : Nat} {x : Int32} (hl0 : lo[q]? = some (i, .int x)) (dg : decode cc pc = .ok (.iload i, 2)) (k : sw_V p l e d s m args below meth c g A Q nL (pc + 2) lo (.int x :: rest) st) : sw_V p l e d s m args below meth c g A Q nL pc lo rest st := fun H lcs ls hP hS hl => lv_iload X.1 X.2.1 dg (lv_at hl q hl0) (k H lcs ls hP hS hl)
theorem sw_lload_n (X : sw_Ok p s m args c cc own nL g A) (q : Nat) {n : Fin 4} {i : Nat} {x : Int64} (hl0 : lo[q]? = some (i, .long x)) (hi : (n : Nat) = i) (dg : decode cc pc = .ok (.lload_n n, 1)) (k : sw_V p l e d s m args below meth c g A Q nL (pc + 1) lo (.long x :: rest) st) : sw_V p l e d s m args below meth c g A Q nL pc lo rest st := fun H lcs ls hP hS hl => lv_lload_n X.1 X.2.1 dg hi (lv_at hl q hl0) (k H lcs ls hP hS hl)
theorem sw_lload (X : sw_Ok p s m args c cc own nL g A) (q : Nat) {i : Nat} {x : Int64} (hl0 : lo[q]? = some (i, .long x)) (dg : decode cc pc = .ok (.lload i, 2)) (k : sw_V p l e d s m args below meth c g A Q nL (pc + 2) lo (.long x :: rest) st) : sw_V p l e d s m args below meth c g A Q nL pc lo rest st := fun H lcs ls hP hS hl => lv_lload X.1 X.2.1 dg (lv_at hl q hl0) (k H lcs ls hP hS hl)
theorem sw_aload_n (X : sw_Ok p s m args c cc own nL g A) (q : Nat) {n : Fin 4} {i : Nat} {x : Nat} (hl0 : lo[q]? = some (i, .ref x)) (hi : (n : Nat) = i) (dg : decode cc pc = .ok (.aload_n n, 1)) (k : sw_V p l e d s m args below meth c g A Q nL (pc + 1) lo (.ref x :: rest) st) : sw_V p l e d s m args below meth c g A Q nL pc lo rest st := fun H lcs ls hP hS hl => lv_aload_n X.1 X.2.1 dg hi (lv_at hl q hl0) (k H lcs ls hP hS hl)
theorem sw_aload (X : sw_Ok p s m args c cc own nL g A) (q : Nat) {i : Nat} {x : Nat} (hl0 : lo[q]? = some (i, .ref x)) (dg : decode cc pc = .ok (.aload i, 2)) (k : sw_V p l e d s m args below meth c g A Q nL (pc + 2) lo (.ref x :: rest) st) : sw_V p l e d s m args below meth c g A Q nL pc lo rest st := fun H lcs ls hP hS hl => lv_aload X.1 X.2.1 dg (lv_at hl q hl0) (k H lcs ls hP hS hl)
theorem sw_istore_n (X : sw_Ok p s m args c cc own nL g A) {n : Fin 4} {i : Nat} {x : Int32} (lo1 : List (Nat × Value)) (hi : (n : Nat) = i) (hn : i < nL) (hl1 : (i, Value.int x) :: lo.filter (fun q => !(q.1 == i) && !(q.1 + 1 == i && q.2.category == 2)) = lo1) (dg : decode cc pc = .ok (.istore_n n, 1)) (k : sw_V p l e d s m args below meth c g A Q nL (pc + 1) lo1 rest st) : sw_V p l e d s m args below meth c g A Q nL pc lo (.int x :: rest) st := fun H lcs ls hP hS hl => lv_istore_n X.1 X.2.1 dg hi hl hn hl1 (fun ls1 hl1 => k H lcs ls1 hP hS hl1)
theorem sw_istore (X : sw_Ok p s m args c cc own nL g A) {i : Nat} {x : Int32} (lo1 : List (Nat × Value)) (hn : i < nL) (hl1 : (i, Value.int x) :: lo.filter (fun q => !(q.1 == i) && !(q.1 + 1 == i && q.2.category == 2)) = lo1) (dg : decode cc pc = .ok (.istore i, 2)) (k : sw_V p l e d s m args below meth c g A Q nL (pc + 2) lo1 rest st) : sw_V p l e d s m args below meth c g A Q nL pc lo (.int x :: rest) st := fun H lcs ls hP hS hl => lv_istore X.1 X.2.1 dg hl hn hl1 (fun ls1 hl1 => k H lcs ls1 hP hS hl1)
theorem sw_astore_n (X : sw_Ok p s m args c cc own nL g A) {n : Fin 4} {i : Nat} {x : Nat} (lo1 : List (Nat × Value)) (hi : (n : Nat) = i) (hn : i < nL) (hl1 : (i, Value.ref x) :: lo.filter (fun q => !(q.1 == i) && !(q.1 + 1 == i && q.2.category == 2)) = lo1) (dg : decode cc pc = .ok (.astore_n n, 1)) (k : sw_V p l e d s m args below meth c g A Q nL (pc + 1) lo1 rest st) : sw_V p l e d s m args below meth c g A Q nL pc lo (.ref x :: rest) st := fun H lcs ls hP hS hl => lv_astore_n X.1 X.2.1 dg hi hl hn hl1 (fun ls1 hl1 => k H lcs ls1 hP hS hl1)
theorem sw_astore (X : sw_Ok p s m args c cc own nL g A) {i : Nat} {x : Nat} (lo1 : List (Nat × Value)) (hn : i < nL) (hl1 : (i, Value.ref x) :: lo.filter (fun q => !(q.1 == i) && !(q.1 + 1 == i && q.2.category == 2)) = lo1) (dg : decode cc pc = .ok (.astore i, 2)) (k : sw_V p l e d s m args below meth c g A Q nL (pc + 2) lo1 rest st) : sw_V p l e d s m args below meth c g A Q nL pc lo (.ref x :: rest) st := fun H lcs ls hP hS hl => lv_astore X.1 X.2.1 dg hl hn hl1 (fun ls1 hl1 => k H lcs ls1 hP hS hl1)
theorem sw_lstore_n (X : sw_Ok p s m args c cc own nL g A) {n : Fin 4} {i : Nat} {x : Int64} (lo1 : List (Nat × Value)) (hi : (n : Nat) = i) (hn : i + 1 < nL) (hl1 : (i, Value.long x) :: lo.filter (fun q => !(q.1 == i) && (!(q.1 == i + 1) && !(q.1 + 1 == i && q.2.category == 2))) = lo1) (dg : decode cc pc = .ok (.lstore_n n, 1)) (k : sw_V p l e d s m args below meth c g A Q nL (pc + 1) lo1 rest st) : sw_V p l e d s m args below meth c g A Q nL pc lo (.long x :: rest) st := fun H lcs ls hP hS hl => lv_lstore_n X.1 X.2.1 dg hi hl hn hl1 (fun ls1 hl1 => k H lcs ls1 hP hS hl1)
theorem sw_lstore (X : sw_Ok p s m args c cc own nL g A) {i : Nat} {x : Int64} (lo1 : List (Nat × Value)) (hn : i + 1 < nL) (hl1 : (i, Value.long x) :: lo.filter (fun q => !(q.1 == i) && (!(q.1 == i + 1) && !(q.1 + 1 == i && q.2.category == 2))) = lo1) (dg : decode cc pc = .ok (.lstore i, 2)) (k : sw_V p l e d s m args below meth c g A Q nL (pc + 2) lo1 rest st) : sw_V p l e d s m args below meth c g A Q nL pc lo (.long x :: rest) st := fun H lcs ls hP hS hl => lv_lstore X.1 X.2.1 dg hl hn hl1 (fun ls1 hl1 => k H lcs ls1 hP hS hl1)
theorem sw_iinc (X : sw_Ok p s m args c cc own nL g A) (q : Nat) {i : Nat} {n : Int} {x : Int32} (v : Int32) (lo1 : List (Nat × Value)) (hk : lo[q]? = some (i, .int x)) (hv : x + Int32.ofInt n = v) (hn : i < nL) (hl1 : (i, Value.int v) :: lo.filter (fun q => !(q.1 == i) && !(q.1 + 1 == i && q.2.category == 2)) = lo1) (dg : decode cc pc = .ok (.iinc i n, 3)) (k : sw_V p l e d s m args below meth c g A Q nL (pc + 3) lo1 rest st) : sw_V p l e d s m args below meth c g A Q nL pc lo rest st := fun H lcs ls hP hS hl => lv_iinc X.1 X.2.1 dg hl hk hv hn hl1 (fun ls1 hl1 => k H lcs ls1 hP hS hl1)
theorem sw_dup (X : sw_Ok p s m args c cc own nL g A) {v : Value} (hv : v.category = 1) (dg : decode cc pc = .ok (.dup, 1)) (k : sw_V p l e d s m args below meth c g A Q nL (pc + 1) lo (v :: v :: rest) st) : sw_V p l e d s m args below meth c g A Q nL pc lo (v :: rest) st := fun H lcs ls hP hS hl => lv_dup X.1 X.2.1 dg hv (k H lcs ls hP hS hl)
theorem sw_pop (X : sw_Ok p s m args c cc own nL g A) {v : Value} (hv : v.category = 1) (dg : decode cc pc = .ok (.pop, 1)) (k : sw_V p l e d s m args below meth c g A Q nL (pc + 1) lo rest st) : sw_V p l e d s m args below meth c g A Q nL pc lo (v :: rest) st := fun H lcs ls hP hS hl => lv_pop X.1 X.2.1 dg hv (k H lcs ls hP hS hl)
theorem sw_dup2 (X : sw_Ok p s m args c cc own nL g A) {v u : Value} (hv : v.category = 1) (hu : u.category = 1) (dg : decode cc pc = .ok (.dup2, 1)) (k : sw_V p l e d s m args below meth c g A Q nL (pc + 1) lo (v :: u :: v :: u :: rest) st) : sw_V p l e d s m args below meth c g A Q nL pc lo (v :: u :: rest) st := fun H lcs ls hP hS hl => lv_dup2_11 X.1 X.2.1 dg hv hu (k H lcs ls hP hS hl)
theorem sw_goto (X : sw_Ok p s m args c cc own nL g A) (tgt : Nat) {off : Int} (ht : (pc : Int) + off = (tgt : Int)) (dg : decode cc pc = .ok (.goto off, 3)) (k : sw_V p l e d s m args below meth c g A Q nL tgt lo rest st) : sw_V p l e d s m args below meth c g A Q nL pc lo rest st := fun H lcs ls hP hS hl => lv_goto X.1 X.2.1 dg ht (k H lcs ls hP hS hl)
theorem sw_if_eq (X : sw_Ok p s m args c cc own nL g A) {x : Int32} {off : Int} (tgt : Nat) (ht : (pc : Int) + off = (tgt : Int)) (dg : decode cc pc = .ok (.ifCond .eq off, 3)) (kt : x = 0 → sw_V p l e d s m args below meth c g A Q nL tgt lo rest st) (kf : ¬ x = 0 → sw_V p l e d s m args below meth c g A Q nL (pc + 3) lo rest st) : sw_V p l e d s m args below meth c g A Q nL pc lo (.int x :: rest) st := fun H lcs ls hP hS hl => lv_if_eq X.1 X.2.1 dg ht (fun q => kt q H lcs ls hP hS hl) (fun q => kf q H lcs ls hP hS hl)
theorem sw_icmp_eq (X : sw_Ok p s m args c cc own nL g A) {x y : Int32} {off : Int} (tgt : Nat) (ht : (pc : Int) + off = (tgt : Int)) (dg : decode cc pc = .ok (.if_icmp .eq off, 3)) (kt : x = y → sw_V p l e d s m args below meth c g A Q nL tgt lo rest st) (kf : ¬ x = y → sw_V p l e d s m args below meth c g A Q nL (pc + 3) lo rest st) : sw_V p l e d s m args below meth c g A Q nL pc lo (.int y :: .int x :: rest) st := fun H lcs ls hP hS hl => lv_icmp_eq X.1 X.2.1 dg ht (fun q => kt q H lcs ls hP hS hl) (fun q => kf q H lcs ls hP hS hl)
theorem sw_if_ne (X : sw_Ok p s m args c cc own nL g A) {x : Int32} {off : Int} (tgt : Nat) (ht : (pc : Int) + off = (tgt : Int)) (dg : decode cc pc = .ok (.ifCond .ne off, 3)) (kt : ¬ x = 0 → sw_V p l e d s m args below meth c g A Q nL tgt lo rest st) (kf : x = 0 → sw_V p l e d s m args below meth c g A Q nL (pc + 3) lo rest st) : sw_V p l e d s m args below meth c g A Q nL pc lo (.int x :: rest) st := fun H lcs ls hP hS hl => lv_if_ne X.1 X.2.1 dg ht (fun q => kt q H lcs ls hP hS hl) (fun q => kf q H lcs ls hP hS hl)
theorem sw_icmp_ne (X : sw_Ok p s m args c cc own nL g A) {x y : Int32} {off : Int} (tgt : Nat) (ht : (pc : Int) + off = (tgt : Int)) (dg : decode cc pc = .ok (.if_icmp .ne off, 3)) (kt : ¬ x = y → sw_V p l e d s m args below meth c g A Q nL tgt lo rest st) (kf : x = y → sw_V p l e d s m args below meth c g A Q nL (pc + 3) lo rest st) : sw_V p l e d s m args below meth c g A Q nL pc lo (.int y :: .int x :: rest) st := fun H lcs ls hP hS hl => lv_icmp_ne X.1 X.2.1 dg ht (fun q => kt q H lcs ls hP hS hl) (fun q => kf q H lcs ls hP hS hl)
theorem sw_if_lt (X : sw_Ok p s m args c cc own nL g A) {x : Int32} {off : Int} (tgt : Nat) (ht : (pc : Int) + off = (tgt : Int)) (dg : decode cc pc = .ok (.ifCond .lt off, 3)) (kt : x < 0 → sw_V p l e d s m args below meth c g A Q nL tgt lo rest st) (kf : ¬ x < 0 → sw_V p l e d s m args below meth c g A Q nL (pc + 3) lo rest st) : sw_V p l e d s m args below meth c g A Q nL pc lo (.int x :: rest) st := fun H lcs ls hP hS hl => lv_if_lt X.1 X.2.1 dg ht (fun q => kt q H lcs ls hP hS hl) (fun q => kf q H lcs ls hP hS hl)
theorem sw_icmp_lt (X : sw_Ok p s m args c cc own nL g A) {x y : Int32} {off : Int} (tgt : Nat) (ht : (pc : Int) + off = (tgt : Int)) (dg : decode cc pc = .ok (.if_icmp .lt off, 3)) (kt : x < y → sw_V p l e d s m args below meth c g A Q nL tgt lo rest st) (kf : ¬ x < y → sw_V p l e d s m args below meth c g A Q nL (pc + 3) lo rest st) : sw_V p l e d s m args below meth c g A Q nL pc lo (.int y :: .int x :: rest) st := fun H lcs ls hP hS hl => lv_icmp_lt X.1 X.2.1 dg ht (fun q => kt q H lcs ls hP hS hl) (fun q => kf q H lcs ls hP hS hl)
theorem sw_if_ge (X : sw_Ok p s m args c cc own nL g A) {x : Int32} {off : Int} (tgt : Nat) (ht : (pc : Int) + off = (tgt : Int)) (dg : decode cc pc = .ok (.ifCond .ge off, 3)) (kt : 0 ≤ x → sw_V p l e d s m args below meth c g A Q nL tgt lo rest st) (kf : ¬ 0 ≤ x → sw_V p l e d s m args below meth c g A Q nL (pc + 3) lo rest st) : sw_V p l e d s m args below meth c g A Q nL pc lo (.int x :: rest) st := fun H lcs ls hP hS hl => lv_if_ge X.1 X.2.1 dg ht (fun q => kt q H lcs ls hP hS hl) (fun q => kf q H lcs ls hP hS hl)
theorem sw_icmp_ge (X : sw_Ok p s m args c cc own nL g A) {x y : Int32} {off : Int} (tgt : Nat) (ht : (pc : Int) + off = (tgt : Int)) (dg : decode cc pc = .ok (.if_icmp .ge off, 3)) (kt : y ≤ x → sw_V p l e d s m args below meth c g A Q nL tgt lo rest st) (kf : ¬ y ≤ x → sw_V p l e d s m args below meth c g A Q nL (pc + 3) lo rest st) : sw_V p l e d s m args below meth c g A Q nL pc lo (.int y :: .int x :: rest) st := fun H lcs ls hP hS hl => lv_icmp_ge X.1 X.2.1 dg ht (fun q => kt q H lcs ls hP hS hl) (fun q => kf q H lcs ls hP hS hl)
theorem sw_if_gt (X : sw_Ok p s m args c cc own nL g A) {x : Int32} {off : Int} (tgt : Nat) (ht : (pc : Int) + off = (tgt : Int)) (dg : decode cc pc = .ok (.ifCond .gt off, 3)) (kt : 0 < x → sw_V p l e d s m args below meth c g A Q nL tgt lo rest st) (kf : ¬ 0 < x → sw_V p l e d s m args below meth c g A Q nL (pc + 3) lo rest st) : sw_V p l e d s m args below meth c g A Q nL pc lo (.int x :: rest) st := fun H lcs ls hP hS hl => lv_if_gt X.1 X.2.1 dg ht (fun q => kt q H lcs ls hP hS hl) (fun q => kf q H lcs ls hP hS hl)
theorem sw_icmp_gt (X : sw_Ok p s m args c cc own nL g A) {x y : Int32} {off : Int} (tgt : Nat) (ht : (pc : Int) + off = (tgt : Int)) (dg : decode cc pc = .ok (.if_icmp .gt off, 3)) (kt : y < x → sw_V p l e d s m args below meth c g A Q nL tgt lo rest st) (kf : ¬ y < x → sw_V p l e d s m args below meth c g A Q nL (pc + 3) lo rest st) : sw_V p l e d s m args below meth c g A Q nL pc lo (.int y :: .int x :: rest) st := fun H lcs ls hP hS hl => lv_icmp_gt X.1 X.2.1 dg ht (fun q => kt q H lcs ls hP hS hl) (fun q => kf q H lcs ls hP hS hl)
theorem sw_if_le (X : sw_Ok p s m args c cc own nL g A) {x : Int32} {off : Int} (tgt : Nat) (ht : (pc : Int) + off = (tgt : Int)) (dg : decode cc pc = .ok (.ifCond .le off, 3)) (kt : x ≤ 0 → sw_V p l e d s m args below meth c g A Q nL tgt lo rest st) (kf : ¬ x ≤ 0 → sw_V p l e d s m args below meth c g A Q nL (pc + 3) lo rest st) : sw_V p l e d s m args below meth c g A Q nL pc lo (.int x :: rest) st := fun H lcs ls hP hS hl => lv_if_le X.1 X.2.1 dg ht (fun q => kt q H lcs ls hP hS hl) (fun q => kf q H lcs ls hP hS hl)
theorem sw_icmp_le (X : sw_Ok p s m args c cc own nL g A) {x y : Int32} {off : Int} (tgt : Nat) (ht : (pc : Int) + off = (tgt : Int)) (dg : decode cc pc = .ok (.if_icmp .le off, 3)) (kt : x ≤ y → sw_V p l e d s m args below meth c g A Q nL tgt lo rest st) (kf : ¬ x ≤ y → sw_V p l e d s m args below meth c g A Q nL (pc + 3) lo rest st) : sw_V p l e d s m args below meth c g A Q nL pc lo (.int y :: .int x :: rest) st := fun H lcs ls hP hS hl => lv_icmp_le X.1 X.2.1 dg ht (fun q => kt q H lcs ls hP hS hl) (fun q => kf q H lcs ls hP hS hl)
theorem sw_tabIn (X : sw_Ok p s m args c cc own nL g A) {dflt a z : Int} {offs : Array Int} {len : Nat} {x k : Int32} {off : Int} (tgt : Nat) (hx : x = k) (h1 : ¬ k.toInt < a) (h2 : ¬ z < k.toInt) (ho : offs[(k.toInt - a).toNat]? = some off) (ht : (pc : Int) + off = (tgt : Int)) (dg : decode cc pc = .ok (.tableswitch dflt a z offs, len)) (kk : sw_V p l e d s m args below meth c g A Q nL tgt lo rest st) : sw_V p l e d s m args below meth c g A Q nL pc lo (.int x :: rest) st := fun H lcs ls hP hS hl => by
  subst hx
  exact lv_tableIn X.1 X.2.1 dg h1 h2 ho ht (kk H lcs ls hP hS hl)
theorem sw_tabOut (X : sw_Ok p s m args c cc own nL g A) {dflt a z : Int} {offs : Array Int} {len : Nat} {x : Int32} (tgt : Nat) (hx : x.toInt < a ∨ z < x.toInt) (ht : (pc : Int) + dflt = (tgt : Int)) (dg : decode cc pc = .ok (.tableswitch dflt a z offs, len)) (kk : sw_V p l e d s m args below meth c g A Q nL tgt lo rest st) : sw_V p l e d s m args below meth c g A Q nL pc lo (.int x :: rest) st := fun H lcs ls hP hS hl => lv_tableOut X.1 X.2.1 dg hx ht (kk H lcs ls hP hS hl)
theorem sw_sub {lo1 : List (Nat × Value)} (ks : List Nat) (h : lv_pick lo ks = lo1) (k : sw_V p l e d s m args below meth c g A Q nL pc lo1 rest st) : sw_V p l e d s m args below meth c g A Q nL pc lo rest st := fun H lcs ls hP hS hl => k H lcs ls hP hS (lv_sub hl ks h)
theorem sw_topi {x : Int32} (k : ∀ y : Int32, y = x → sw_V p l e d s m args below meth c g A Q nL pc lo (.int y :: rest) st) : sw_V p l e d s m args below meth c g A Q nL pc lo (.int x :: rest) st := k x rfl
theorem sw_topl {x : Int64} (k : ∀ y : Int64, y = x → sw_V p l e d s m args below meth c g A Q nL pc lo (.long y :: rest) st) : sw_V p l e d s m args below meth c g A Q nL pc lo (.long x :: rest) st := k x rfl

/-- what is known of a class: its number, name, fields, words -/
def sw_Cl (ci : Nat) (C : String) (T : u_T) (N : Nat) (ty : Nat → FieldType) : Prop := ci < 7 ∧ vwCl[ci]? = some (C, T, N) ∧ sw_nf ci = N ∧ (∀ w ∈ u_ws C T N, w ∈ sw_tbl) ∧ (∀ k, k < N → parseFieldDescriptor (T k).2.2.1 = some (ty k)) ∧ (∀ a, a < N → ∀ b, b < N → a ≠ b → (T a).2.1 ≠ (T b).2.1)
theorem sw_cl0 : sw_Cl 0 RX0 TX0 8 tyX0 := ⟨by decide, rfl, rfl, by decide +kernel, tyX0_ok, nmX0⟩
theorem sw_cl1 : sw_Cl 1 RX1 TX1 9 tyX1 := ⟨by decide, rfl, rfl, by decide +kernel, tyX1_ok, nmX1⟩
theorem sw_cl2 : sw_Cl 2 RX2 TX2 5 tyX2 := ⟨by decide, rfl, rfl, by decide +kernel, tyX2_ok, nmX2⟩
theorem sw_cl3 : sw_Cl 3 RX3 TX3 3 tyX3 := ⟨by decide, rfl, rfl, by decide +kernel, tyX3_ok, nmX3⟩
theorem sw_cl4 : sw_Cl 4 RX4 TX4 15 tyX4 := ⟨by decide, rfl, rfl, by decide +kernel, tyX4_ok, nmX4⟩
theorem sw_cl5 : sw_Cl 5 RX5 TX5 17 tyX5 := ⟨by decide, rfl, rfl, by decide +kernel, tyX5_ok, nmX5⟩
theorem sw_cl6 : sw_Cl 6 RX6 TX6 29 tyX6 := ⟨by decide, rfl, rfl, by decide +kernel, tyX6_ok, nmX6⟩
theorem sw_getI (X : sw_Ok p s m args c cc own nL g A) {o ci k N index : Nat} {C : String} {T : u_T} {ty : Nat → FieldType} (K : sw_Cl ci C T N ty) (ho : sw_kd o = ci) (hf : sw_fk ci k = 0) (hk : k < N) (hl0 : Cond.fieldLink own index (T k).1 (T k).2.1 (T k).2.2.1 ∈ sw_tbl) (dg : decode cc pc = .ok (.getfield index, 3)) (kk : sw_V p l e d s m args below meth c g A Q nL (pc + 3) lo (.int (st.1 o k) :: rest) st) : sw_V p l e d s m args below meth c g A Q nL pc lo (.ref (g.1 o) :: rest) st := fun H lcs ls hP hS hl => by
  obtain ⟨hc, hcl, hN, hin, -, -⟩ := K
  refine va_get X.1 X.2.1 X.2.2.2.2.1 hin X.2.2.2.1 X.2.2.2.2.2.1 hP o (fs := (List.range (sw_nf ci)).map (sw_fv g st o)) (by rw [sw_W_get g st (sw_ltk ho (by omega)), sw_cell_o g st ho hc]) hcl k hk (X.2.2.2.2.1 _ hl0) (fun _ h9 => h9) (v := .int (st.1 o k)) ?_ dg (kk H lcs ls hP hS hl)
  rw [List.getElem?_map, hN, List.getElem?_range hk]
  exact congrArg some (sw_fvI g st ho hf)
theorem sw_getL (X : sw_Ok p s m args c cc own nL g A) {o ci k N index : Nat} {C : String} {T : u_T} {ty : Nat → FieldType} (K : sw_Cl ci C T N ty) (ho : sw_kd o = ci) (hf : sw_fk ci k = 1) (hk : k < N) (hl0 : Cond.fieldLink own index (T k).1 (T k).2.1 (T k).2.2.1 ∈ sw_tbl) (dg : decode cc pc = .ok (.getfield index, 3)) (kk : sw_V p l e d s m args below meth c g A Q nL (pc + 3) lo (.long (st.2.1 o k) :: rest) st) : sw_V p l e d s m args below meth c g A Q nL pc lo (.ref (g.1 o) :: rest) st := fun H lcs ls hP hS hl => by
  obtain ⟨hc, hcl, hN, hin, -, -⟩ := K
  refine va_get X.1 X.2.1 X.2.2.2.2.1 hin X.2.2.2.1 X.2.2.2.2.2.1 hP o (fs := (List.range (sw_nf ci)).map (sw_fv g st o)) (by rw [sw_W_get g st (sw_ltk ho (by omega)), sw_cell_o g st ho hc]) hcl k hk (X.2.2.2.2.1 _ hl0) (fun _ h9 => h9) (v := .long (st.2.1 o k)) ?_ dg (kk H lcs ls hP hS hl)
  rw [List.getElem?_map, hN, List.getElem?_range hk]
  exact congrArg some (sw_fvL g st ho hf)
theorem sw_getR (X : sw_Ok p s m args c cc own nL g A) {o ci k N index : Nat} {C : String} {T : u_T} {ty : Nat → FieldType} (K : sw_Cl ci C T N ty) (ho : sw_kd o = ci) (hf : sw_fk ci k = 2) (hk : k < N) {o1 : Nat} (hr : sw_rf st o k = o1) (hl0 : Cond.fieldLink own index (T k).1 (T k).2.1 (T k).2.2.1 ∈ sw_tbl) (dg : decode cc pc = .ok (.getfield index, 3)) (kk : sw_V p l e d s m args below meth c g A Q nL (pc + 3) lo (.ref (g.1 o1) :: rest) st) : sw_V p l e d s m args below meth c g A Q nL pc lo (.ref (g.1 o) :: rest) st := fun H lcs ls hP hS hl => by
  obtain ⟨hc, hcl, hN, hin, -, -⟩ := K
  refine va_get X.1 X.2.1 X.2.2.2.2.1 hin X.2.2.2.1 X.2.2.2.2.2.1 hP o (fs := (List.range (sw_nf ci)).map (sw_fv g st o)) (by rw [sw_W_get g st (sw_ltk ho (by omega)), sw_cell_o g st ho hc]) hcl k hk (X.2.2.2.2.1 _ hl0) (fun _ h9 => h9) (v := .ref (g.1 o1)) ?_ dg (kk H lcs ls hP hS hl)
  rw [List.getElem?_map, hN, List.getElem?_range hk]
  exact congrArg some ((sw_fvR g st ho hf).trans (by rw [hr]))
theorem sw_putI (X : sw_Ok p s m args c cc own nL g A) {o ci k N index : Nat} {C : String} {T : u_T} {ty : Nat → FieldType} {v : Int32} (K : sw_Cl ci C T N ty) (ho : sw_kd o = ci) (hf : sw_fk ci k = 0) (hk : k < N) (ht : ty k = .int) (hfin : (T k).2.2.2 = false) (hl0 : Cond.fieldLink own index (T k).1 (T k).2.1 (T k).2.2.1 ∈ sw_tbl) (dg : decode cc pc = .ok (.putfield index, 3)) (kk : ∀ st1, st1 = (sw_setC st o k v) → sw_V p l e d s m args below meth c g A Q nL (pc + 3) lo rest st1) : sw_V p l e d s m args below meth c g A Q nL pc lo (.int v :: .ref (g.1 o) :: rest) st := fun H lcs ls hP hS hl => by
  obtain ⟨hc, hcl, hN, hin, hty, hnm⟩ := K
  refine va_put X.1 X.2.1 X.2.2.2.2.1 hin ty hty hnm X.2.2.2.1 X.2.2.2.2.2.1 hP (sw_W_D g A X.2.2.2.2.2.2.1 X.2.2.2.2.2.2.2.1 st) hS o (fs := (List.range (sw_nf ci)).map (sw_fv g st o)) (by rw [sw_W_get g st (sw_ltk ho (by omega)), sw_cell_o g st ho hc]) hcl k hk (X.2.2.2.2.1 _ hl0) (fun _ h9 => h9) hfin (ty := .int) (by rw [← ht]; exact hty k hk) rfl rfl (by rw [List.length_map, List.length_range, hN]; exact hk) dg (fun H1 lcs1 hP1 hD1 hS1 => ?_)
  rw [sw_set_i g st ho hc hf] at hP1
  exact kk _ rfl H1 lcs1 ls hP1 hS1 hl
theorem sw_putL (X : sw_Ok p s m args c cc own nL g A) {o ci k N index : Nat} {C : String} {T : u_T} {ty : Nat → FieldType} {v : Int64} (K : sw_Cl ci C T N ty) (ho : sw_kd o = ci) (hf : sw_fk ci k = 1) (hk : k < N) (ht : ty k = .long) (hfin : (T k).2.2.2 = false) (hl0 : Cond.fieldLink own index (T k).1 (T k).2.1 (T k).2.2.1 ∈ sw_tbl) (dg : decode cc pc = .ok (.putfield index, 3)) (kk : ∀ st1, st1 = (sw_setJ st o k v) → sw_V p l e d s m args below meth c g A Q nL (pc + 3) lo rest st1) : sw_V p l e d s m args below meth c g A Q nL pc lo (.long v :: .ref (g.1 o) :: rest) st := fun H lcs ls hP hS hl => by
  obtain ⟨hc, hcl, hN, hin, hty, hnm⟩ := K
  refine va_put X.1 X.2.1 X.2.2.2.2.1 hin ty hty hnm X.2.2.2.1 X.2.2.2.2.2.1 hP (sw_W_D g A X.2.2.2.2.2.2.1 X.2.2.2.2.2.2.2.1 st) hS o (fs := (List.range (sw_nf ci)).map (sw_fv g st o)) (by rw [sw_W_get g st (sw_ltk ho (by omega)), sw_cell_o g st ho hc]) hcl k hk (X.2.2.2.2.1 _ hl0) (fun _ h9 => h9) hfin (ty := .long) (by rw [← ht]; exact hty k hk) rfl rfl (by rw [List.length_map, List.length_range, hN]; exact hk) dg (fun H1 lcs1 hP1 hD1 hS1 => ?_)
  rw [sw_set_l g st ho hc hf] at hP1
  exact kk _ rfl H1 lcs1 ls hP1 hS1 hl
theorem sw_putB (X : sw_Ok p s m args c cc own nL g A) {b index : Nat} (hl0 : Cond.fieldLink own index (TX3 0).1 (TX3 0).2.1 (TX3 0).2.2.1 ∈ sw_tbl) (dg : decode cc pc = .ok (.putfield index, 3)) (kk : ∀ st1, st1 = (sw_setB st b) → sw_V p l e d s m args below meth c g A Q nL (pc + 3) lo rest st1) : sw_V p l e d s m args below meth c g A Q nL pc lo (.ref (g.1 b) :: .ref (g.1 52) :: rest) st := fun H lcs ls hP hS hl => by
  obtain ⟨hc, hcl, hN, hin, hty, hnm⟩ := sw_cl3
  refine va_put X.1 X.2.1 X.2.2.2.2.1 hin tyX3 hty hnm X.2.2.2.1 X.2.2.2.2.2.1 hP (sw_W_D g A X.2.2.2.2.2.2.1 X.2.2.2.2.2.2.2.1 st) hS 52 (fs := (List.range (sw_nf 3)).map (sw_fv g st 52)) (by rw [sw_W_get g st (by decide), sw_cell_o g st (show sw_kd 52 = 3 from rfl) hc]) hcl 0 (by decide) (X.2.2.2.2.1 _ hl0) (fun _ h9 => h9) rfl (ty := .array .byte) (by decide +kernel) rfl rfl (by rw [List.length_map, List.length_range]; decide) dg (fun H1 lcs1 hP1 hD1 hS1 => ?_)
  rw [sw_set_b g st b] at hP1
  exact kk _ rfl H1 lcs1 ls hP1 hS1 hl
theorem sw_iald (X : sw_Ok p s m args c cc own nL g A) {a n : Nat} {i : Int32} (ha : sw_kd a = 8) (hn : sw_ln a = n) (hin : vp_in i n) (dg : decode cc pc = .ok (.iaload, 1)) (kk : sw_V p l e d s m args below meth c g A Q nL (pc + 1) lo (.int (st.1 a i.toNatClampNeg) :: rest) st) : sw_V p l e d s m args below meth c g A Q nL pc lo (.int i :: .ref (g.1 a) :: rest) st := fun H lcs ls hP hS hl =>
  va_iald X.1 X.2.1 X.2.2.2.2.2.1 hP a 1 (by rw [sw_W_get g st (sw_ltk ha (by decide)), sw_cell_a g st ha hn (by decide) (by decide)]) rfl hin dg (kk H lcs ls hP hS hl)
theorem sw_bald (X : sw_Ok p s m args c cc own nL g A) {a n : Nat} {i : Int32} (ha : sw_kd a = 7) (hn : sw_ln a = n) (hin : vp_in i n) (dg : decode cc pc = .ok (.baload, 1)) (kk : sw_V p l e d s m args below meth c g A Q nL (pc + 1) lo (.int (st.1 a i.toNatClampNeg) :: rest) st) : sw_V p l e d s m args below meth c g A Q nL pc lo (.int i :: .ref (g.1 a) :: rest) st := fun H lcs ls hP hS hl =>
  va_bald X.1 X.2.1 X.2.2.2.2.2.1 hP a 0 (by rw [sw_W_get g st (sw_ltk ha (by decide)), sw_cell_a g st ha hn (by decide) (by decide)]) rfl hin dg (kk H lcs ls hP hS hl)
theorem sw_zald (X : sw_Ok p s m args c cc own nL g A) {a n : Nat} {i : Int32} (ha : sw_kd a = 9) (hn : sw_ln a = n) (hin : vp_in i n) (dg : decode cc pc = .ok (.baload, 1)) (kk : sw_V p l e d s m args below meth c g A Q nL (pc + 1) lo (.int (st.1 a i.toNatClampNeg) :: rest) st) : sw_V p l e d s m args below meth c g A Q nL pc lo (.int i :: .ref (g.1 a) :: rest) st := fun H lcs ls hP hS hl =>
  va_zald X.1 X.2.1 X.2.2.2.2.2.1 hP a 2 (by rw [sw_W_get g st (sw_ltk ha (by decide)), sw_cell_a g st ha hn (by decide) (by decide)]) rfl hin dg (kk H lcs ls hP hS hl)
theorem sw_iast (X : sw_Ok p s m args c cc own nL g A) {a n : Nat} {i x : Int32} (ha : sw_kd a = 8) (hn : sw_ln a = n) (hin : vp_in i n) (dg : decode cc pc = .ok (.iastore, 1)) (kk : ∀ st1, st1 = (sw_setC st a i.toNatClampNeg x) → sw_V p l e d s m args below meth c g A Q nL (pc + 1) lo rest st1) : sw_V p l e d s m args below meth c g A Q nL pc lo (.int x :: .int i :: .ref (g.1 a) :: rest) st := fun H lcs ls hP hS hl => by
  refine va_iast X.1 X.2.1 X.2.2.2.2.2.1 hP (sw_W_D g A X.2.2.2.2.2.2.1 X.2.2.2.2.2.2.2.1 st) hS a 1 (by rw [sw_W_get g st (sw_ltk ha (by decide)), sw_cell_a g st ha hn (by decide) (by decide)]) rfl hin dg (fun H1 lcs1 hP1 hD1 hS1 => ?_)
  rw [sw_set_a g st ha hn (by decide) (by decide)] at hP1
  exact kk _ rfl H1 lcs1 ls hP1 hS1 hl
theorem sw_bast (X : sw_Ok p s m args c cc own nL g A) {a n : Nat} {i x : Int32} (ha : sw_kd a = 7) (hn : sw_ln a = n) (hin : vp_in i n) (dg : decode cc pc = .ok (.bastore, 1)) (kk : ∀ st1, st1 = (sw_setC st a i.toNatClampNeg (vp_nar .byte x)) → sw_V p l e d s m args below meth c g A Q nL (pc + 1) lo rest st1) : sw_V p l e d s m args below meth c g A Q nL pc lo (.int x :: .int i :: .ref (g.1 a) :: rest) st := fun H lcs ls hP hS hl => by
  refine va_bast X.1 X.2.1 X.2.2.2.2.2.1 hP (sw_W_D g A X.2.2.2.2.2.2.1 X.2.2.2.2.2.2.2.1 st) hS a 0 (by rw [sw_W_get g st (sw_ltk ha (by decide)), sw_cell_a g st ha hn (by decide) (by decide)]) rfl hin dg (fun H1 lcs1 hP1 hD1 hS1 => ?_)
  rw [sw_set_a g st ha hn (by decide) (by decide)] at hP1
  exact kk _ rfl H1 lcs1 ls hP1 hS1 hl
theorem sw_zast (X : sw_Ok p s m args c cc own nL g A) {a n : Nat} {i x : Int32} (ha : sw_kd a = 9) (hn : sw_ln a = n) (hin : vp_in i n) (dg : decode cc pc = .ok (.bastore, 1)) (kk : ∀ st1, st1 = (sw_setC st a i.toNatClampNeg (vp_nar .boolean x)) → sw_V p l e d s m args below meth c g A Q nL (pc + 1) lo rest st1) : sw_V p l e d s m args below meth c g A Q nL pc lo (.int x :: .int i :: .ref (g.1 a) :: rest) st := fun H lcs ls hP hS hl => by
  refine va_zast X.1 X.2.1 X.2.2.2.2.2.1 hP (sw_W_D g A X.2.2.2.2.2.2.1 X.2.2.2.2.2.2.2.1 st) hS a 2 (by rw [sw_W_get g st (sw_ltk ha (by decide)), sw_cell_a g st ha hn (by decide) (by decide)]) rfl hin dg (fun H1 lcs1 hP1 hD1 hS1 => ?_)
  rw [sw_set_a g st ha hn (by decide) (by decide)] at hP1
  exact kk _ rfl H1 lcs1 ls hP1 hS1 hl
theorem sw_aaldT (X : sw_Ok p s m args c cc own nL g A) {a n : Nat} {i : Int32} {a1 : Nat} (ha : sw_kd a = 10) (hn : sw_ln a = n) (hin : vp_in i n) (hr : sw_ra a i.toNatClampNeg = a1) (dg : decode cc pc = .ok (.aaload, 1)) (kk : sw_V p l e d s m args below meth c g A Q nL (pc + 1) lo (.ref (g.1 a1) :: rest) st) : sw_V p l e d s m args below meth c g A Q nL pc lo (.int i :: .ref (g.1 a) :: rest) st := fun H lcs ls hP hS hl => by
  subst hr
  have hlt : i.toNatClampNeg < n := Nat.not_le.mp fun q => hin (Or.inr q)
  have hh := hP a _ (by rw [sw_W_get g st (sw_ltk ha (by decide)), sw_cell_q g st ha hn (by decide)])
  exact W.aald (v := .ref (g.1 (sw_ra a i.toNatClampNeg))) (ty := .object "StrangersWind$Town") X.1 X.2.1 hh ((X.2.2.2.2.2.1.2 3 _ rfl).1 n (fun j => va_rf (some (g.1 (sw_ra a j))))) rfl (fun q => by cases q) (by show ¬ (i < 0 ∨ (arrV _ _ _).slots.size ≤ _); rw [arrV_size]; exact hin) (by show (arrV _ _ _).slots[_]? = _; rw [arrV_read _ _ hlt]; rfl) rfl rfl dg (kk H lcs ls hP hS hl)
theorem sw_aaldB (X : sw_Ok p s m args c cc own nL g A) {a n : Nat} {i : Int32} {a1 : Nat} (ha : sw_kd a = 11) (hn : sw_ln a = n) (hin : vp_in i n) (hr : sw_ra a i.toNatClampNeg = a1) (dg : decode cc pc = .ok (.aaload, 1)) (kk : sw_V p l e d s m args below meth c g A Q nL (pc + 1) lo (.ref (g.1 a1) :: rest) st) : sw_V p l e d s m args below meth c g A Q nL pc lo (.int i :: .ref (g.1 a) :: rest) st := fun H lcs ls hP hS hl => by
  subst hr
  have hlt : i.toNatClampNeg < n := Nat.not_le.mp fun q => hin (Or.inr q)
  have hh := hP a _ (by rw [sw_W_get g st (sw_ltk ha (by decide)), sw_cell_q g st ha hn (by decide)])
  exact W.aald (v := .ref (g.1 (sw_ra a i.toNatClampNeg))) (ty := .array .byte) X.1 X.2.1 hh ((X.2.2.2.2.2.1.2 4 _ rfl).1 n (fun j => va_rf (some (g.1 (sw_ra a j))))) rfl (fun q => by cases q) (by show ¬ (i < 0 ∨ (arrV _ _ _).slots.size ≤ _); rw [arrV_size]; exact hin) (by show (arrV _ _ _).slots[_]? = _; rw [arrV_read _ _ hlt]; rfl) rfl rfl dg (kk H lcs ls hP hS hl)
theorem sw_aaldI (X : sw_Ok p s m args c cc own nL g A) {a n : Nat} {i : Int32} {a1 : Nat} (ha : sw_kd a = 12) (hn : sw_ln a = n) (hin : vp_in i n) (hr : sw_ra a i.toNatClampNeg = a1) (dg : decode cc pc = .ok (.aaload, 1)) (kk : sw_V p l e d s m args below meth c g A Q nL (pc + 1) lo (.ref (g.1 a1) :: rest) st) : sw_V p l e d s m args below meth c g A Q nL pc lo (.int i :: .ref (g.1 a) :: rest) st := fun H lcs ls hP hS hl => by
  subst hr
  have hlt : i.toNatClampNeg < n := Nat.not_le.mp fun q => hin (Or.inr q)
  have hh := hP a _ (by rw [sw_W_get g st (sw_ltk ha (by decide)), sw_cell_q g st ha hn (by decide)])
  exact W.aald (v := .ref (g.1 (sw_ra a i.toNatClampNeg))) (ty := .array .int) X.1 X.2.1 hh ((X.2.2.2.2.2.1.2 5 _ rfl).1 n (fun j => va_rf (some (g.1 (sw_ra a j))))) rfl (fun q => by cases q) (by show ¬ (i < 0 ∨ (arrV _ _ _).slots.size ≤ _); rw [arrV_size]; exact hin) (by show (arrV _ _ _).slots[_]? = _; rw [arrV_read _ _ hlt]; rfl) rfl rfl dg (kk H lcs ls hP hS hl)
theorem sw_alenB (X : sw_Ok p s m args c cc own nL g A) {a : Nat} (ha : sw_kd a = 7) (dg : decode cc pc = .ok (.arraylength, 1)) (kk : sw_V p l e d s m args below meth c g A Q nL (pc + 1) lo (.int (nI (sw_ln a)) :: rest) st) : sw_V p l e d s m args below meth c g A Q nL pc lo (.ref (g.1 a) :: rest) st := fun H lcs ls hP hS hl =>
  va_alen X.1 X.2.1 X.2.2.2.2.2.1 hP a 0 (x := (sw_ln a, .inl (st.1 a))) (by rw [sw_W_get g st (sw_ltk ha (by decide)), sw_cell_a g st ha rfl (by decide) (by decide)]) rfl rfl dg (kk H lcs ls hP hS hl)
theorem sw_alenI (X : sw_Ok p s m args c cc own nL g A) {a : Nat} (ha : sw_kd a = 8) (dg : decode cc pc = .ok (.arraylength, 1)) (kk : sw_V p l e d s m args below meth c g A Q nL (pc + 1) lo (.int (nI (sw_ln a)) :: rest) st) : sw_V p l e d s m args below meth c g A Q nL pc lo (.ref (g.1 a) :: rest) st := fun H lcs ls hP hS hl =>
  va_alen X.1 X.2.1 X.2.2.2.2.2.1 hP a 1 (x := (sw_ln a, .inl (st.1 a))) (by rw [sw_W_get g st (sw_ltk ha (by decide)), sw_cell_a g st ha rfl (by decide) (by decide)]) rfl rfl dg (kk H lcs ls hP hS hl)
theorem sw_alenZ (X : sw_Ok p s m args c cc own nL g A) {a : Nat} (ha : sw_kd a = 9) (dg : decode cc pc = .ok (.arraylength, 1)) (kk : sw_V p l e d s m args below meth c g A Q nL (pc + 1) lo (.int (nI (sw_ln a)) :: rest) st) : sw_V p l e d s m args below meth c g A Q nL pc lo (.ref (g.1 a) :: rest) st := fun H lcs ls hP hS hl =>
  va_alen X.1 X.2.1 X.2.2.2.2.2.1 hP a 2 (x := (sw_ln a, .inl (st.1 a))) (by rw [sw_W_get g st (sw_ltk ha (by decide)), sw_cell_a g st ha rfl (by decide) (by decide)]) rfl rfl dg (kk H lcs ls hP hS hl)
end SWR
end
section
def sw_B (g : sw_G) (st : sw_St) (t : State) : Prop := va_P g.2.1 vwCl (sw_W g st) t.heap ∧ va_K g.2.1 vwCl (sw_tys g) t
def sw_Pre (g : sw_G) (st : sw_St) (sz : Nat) : State → Prop := fun U => U.heap.size = sz ∧ sw_B g st U
def sw_MV (y : MethodName) (bytes : ByteArray) (maxL : Nat) (ret : Option FieldType) (n : Nat) (C : String) : Prop := Cond.code y bytes maxL ret ∈ sw_tbl ∧ Cond.instanceMethod y ∈ sw_tbl ∧ Cond.selects C y y ∈ sw_tbl ∧ Cond.initialized y.cls ∈ sw_tbl ∧ (y.cls ≠ "java/lang/invoke/MethodHandle" ∧ y.cls ≠ "java/lang/invoke/VarHandle" ∧ (parseMethodDescriptor y.desc).map (fun d => d.parameters.length) = some n) ∧ maxL ≤ 45
def sw_MS (y : MethodName) (bytes : ByteArray) (maxL : Nat) (ret : Option FieldType) (n : Nat) : Prop := Cond.code y bytes maxL ret ∈ sw_tbl ∧ Cond.static y ∈ sw_tbl ∧ Cond.initialized y.cls ∈ sw_tbl ∧ (y.cls ≠ "java/lang/invoke/MethodHandle" ∧ y.cls ≠ "java/lang/invoke/VarHandle" ∧ (parseMethodDescriptor y.desc).map (fun d => d.parameters.length) = some n) ∧ maxL ≤ 45
theorem sw_blind (g : sw_G) (st : sw_St) (sz : Nat) (av : List Value) : FrameBlind (va_Pc av (sw_Pre g st sz)) := fun a U f mk q => by
  obtain ⟨q0, q1, qP, qK⟩ := q
  exact ⟨q0, q1, qP, va_K.moved (u := U) (U := U.calling f mk a) (Vm.Alike.refl U.vm) qK⟩

def sw_CI (y : MethodName) (cw : Cond) (d : Nat) (av : sw_G → List Value) (st : sw_St) (r : Int32) (st1 : sw_St) : Prop := ∀ (l : Launch) (g : sw_G) (sz : Nat), sw_Inj g → Met l y (cw :: sw_tbl) (sw_rm d) (va_Pc (av g) (sw_Pre g st sz)) (va_Qi (fun (r' : Int32) (s' : sw_St) => r' = r ∧ s' = st1) (sw_B g) (sw_A g sz)) 0 0 (sw_A g sz)
def sw_QI (below : List Frame) (g : sw_G) (args : Array Value) (s : State) (r : Int32) (st1 : sw_St) : State → Prop := MQ below (va_Qi (fun (r' : Int32) (s' : sw_St) => r' = r ∧ s' = st1) (sw_B g) (sw_A g s.heap.size)) args s 0 0 (sw_A g s.heap.size)
theorem sw_entI {y : MethodName} {cc : ByteArray} {maxL d : Nat} {ret : Option FieldType} {av : sw_G → List Value} {st st1 : sw_St} {r : Int32} (own : String) (lo : sw_G → List (Nat × Value)) (hy : plainName y.cls = true) (ho : y.cls = own) (hlen : ∀ g, (lg_sl (av g)).length ≤ maxL) (hlo : ∀ g, lv_args 0 (av g) = lo g)
    (body : ∀ (p : Program) (l : Launch) (e : Env) (s : State) (m : MethodId) (args : Array Value) (below : List Frame) (meth : Method) (c : Code) (g : sw_G), sw_Ok p s m args c cc own maxL g (sw_A g s.heap.size) → meth.sig.returnType = ret → meth.locks = false → sw_V p l e d s m args below meth c g (sw_A g s.heap.size) (sw_QI below g args s r st1) maxL 0 (lo g) [] st) : sw_CI y (.code y cc maxL ret) d av st r st1 := by
  intro l g sz hinj
  refine Met.ofW (cc := cc) (maxL := maxL) (ret := ret) hy rfl ?_
  intro p e s m args below meth c s₁ B hml hv
  obtain ⟨rfl, hsz, hP, hK⟩ := hv
  subst hsz
  have hts := atoms_spec (ws := Cond.code y cc maxL ret :: sw_tbl) B.pre
  have hown : s.vm.findClass y.cls = some m.cls := findClass_of_methodNamed B.named
  rw [ho] at hown
  have hl := lv_entry (av g) (n := maxL) (hlen g)
  rw [lg_entry_eq]
  rw [hlo g] at hl
  exact body p l e s m _ below meth c g ⟨B.exec, B.bytes, hml, hown, fun w hw => hts w (List.mem_cons_of_mem _ hw), hK, hinj, fun i hi => Or.inl ⟨i, hi, rfl⟩, fun q h => Or.inr h⟩ B.returns B.notSynchronized s.heap [] _ hP va_S.rf hl
def sw_CL (y : MethodName) (cw : Cond) (d : Nat) (av : sw_G → List Value) (st : sw_St) (r : Int64) (st1 : sw_St) : Prop := ∀ (l : Launch) (g : sw_G) (sz : Nat), sw_Inj g → Met l y (cw :: sw_tbl) (sw_rm d) (va_Pc (av g) (sw_Pre g st sz)) (va_Ql (fun (r' : Int64) (s' : sw_St) => r' = r ∧ s' = st1) (sw_B g) (sw_A g sz)) 0 0 (sw_A g sz)
def sw_QL (below : List Frame) (g : sw_G) (args : Array Value) (s : State) (r : Int64) (st1 : sw_St) : State → Prop := MQ below (va_Ql (fun (r' : Int64) (s' : sw_St) => r' = r ∧ s' = st1) (sw_B g) (sw_A g s.heap.size)) args s 0 0 (sw_A g s.heap.size)
theorem sw_entL {y : MethodName} {cc : ByteArray} {maxL d : Nat} {ret : Option FieldType} {av : sw_G → List Value} {st st1 : sw_St} {r : Int64} (own : String) (lo : sw_G → List (Nat × Value)) (hy : plainName y.cls = true) (ho : y.cls = own) (hlen : ∀ g, (lg_sl (av g)).length ≤ maxL) (hlo : ∀ g, lv_args 0 (av g) = lo g)
    (body : ∀ (p : Program) (l : Launch) (e : Env) (s : State) (m : MethodId) (args : Array Value) (below : List Frame) (meth : Method) (c : Code) (g : sw_G), sw_Ok p s m args c cc own maxL g (sw_A g s.heap.size) → meth.sig.returnType = ret → meth.locks = false → sw_V p l e d s m args below meth c g (sw_A g s.heap.size) (sw_QL below g args s r st1) maxL 0 (lo g) [] st) : sw_CL y (.code y cc maxL ret) d av st r st1 := by
  intro l g sz hinj
  refine Met.ofW (cc := cc) (maxL := maxL) (ret := ret) hy rfl ?_
  intro p e s m args below meth c s₁ B hml hv
  obtain ⟨rfl, hsz, hP, hK⟩ := hv
  subst hsz
  have hts := atoms_spec (ws := Cond.code y cc maxL ret :: sw_tbl) B.pre
  have hown : s.vm.findClass y.cls = some m.cls := findClass_of_methodNamed B.named
  rw [ho] at hown
  have hl := lv_entry (av g) (n := maxL) (hlen g)
  rw [lg_entry_eq]
  rw [hlo g] at hl
  exact body p l e s m _ below meth c g ⟨B.exec, B.bytes, hml, hown, fun w hw => hts w (List.mem_cons_of_mem _ hw), hK, hinj, fun i hi => Or.inl ⟨i, hi, rfl⟩, fun q h => Or.inr h⟩ B.returns B.notSynchronized s.heap [] _ hP va_S.rf hl
def sw_CV (y : MethodName) (cw : Cond) (d : Nat) (av : sw_G → List Value) (st : sw_St) (st1 : sw_St) : Prop := ∀ (l : Launch) (g : sw_G) (sz : Nat), sw_Inj g → Met l y (cw :: sw_tbl) (sw_rm d) (va_Pc (av g) (sw_Pre g st sz)) (va_Qv (fun (s' : sw_St) => s' = st1) (sw_B g) (sw_A g sz)) 0 0 (sw_A g sz)
def sw_QV (below : List Frame) (g : sw_G) (args : Array Value) (s : State) (st1 : sw_St) : State → Prop := MQ below (va_Qv (fun (s' : sw_St) => s' = st1) (sw_B g) (sw_A g s.heap.size)) args s 0 0 (sw_A g s.heap.size)
theorem sw_entV {y : MethodName} {cc : ByteArray} {maxL d : Nat} {ret : Option FieldType} {av : sw_G → List Value} {st st1 : sw_St} (own : String) (lo : sw_G → List (Nat × Value)) (hy : plainName y.cls = true) (ho : y.cls = own) (hlen : ∀ g, (lg_sl (av g)).length ≤ maxL) (hlo : ∀ g, lv_args 0 (av g) = lo g)
    (body : ∀ (p : Program) (l : Launch) (e : Env) (s : State) (m : MethodId) (args : Array Value) (below : List Frame) (meth : Method) (c : Code) (g : sw_G), sw_Ok p s m args c cc own maxL g (sw_A g s.heap.size) → meth.sig.returnType = ret → meth.locks = false → sw_V p l e d s m args below meth c g (sw_A g s.heap.size) (sw_QV below g args s  st1) maxL 0 (lo g) [] st) : sw_CV y (.code y cc maxL ret) d av st  st1 := by
  intro l g sz hinj
  refine Met.ofW (cc := cc) (maxL := maxL) (ret := ret) hy rfl ?_
  intro p e s m args below meth c s₁ B hml hv
  obtain ⟨rfl, hsz, hP, hK⟩ := hv
  subst hsz
  have hts := atoms_spec (ws := Cond.code y cc maxL ret :: sw_tbl) B.pre
  have hown : s.vm.findClass y.cls = some m.cls := findClass_of_methodNamed B.named
  rw [ho] at hown
  have hl := lv_entry (av g) (n := maxL) (hlen g)
  rw [lg_entry_eq]
  rw [hlo g] at hl
  exact body p l e s m _ below meth c g ⟨B.exec, B.bytes, hml, hown, fun w hw => hts w (List.mem_cons_of_mem _ hw), hK, hinj, fun i hi => Or.inl ⟨i, hi, rfl⟩, fun q h => Or.inr h⟩ B.returns B.notSynchronized s.heap [] _ hP va_S.rf hl
section SWC
variable {p : Program} {l : Launch} {e : Env} {d : Nat} {s : State} {m : MethodId} {args : Array Value} {below : List Frame} {meth : Method} {c : Code} {cc : ByteArray} {own : String} {nL : Nat} {g : sw_G} {A : Nat → Prop} {Q : State → Prop} {pc : Nat} {lo : List (Nat × Value)} {rest : List Value} {st : sw_St}
theorem sw_iret (X : sw_Ok p s m args c cc own nL g (sw_A g s.heap.size)) {v r : Int32} {st1 : sw_St} (hr : meth.sig.returnType = some .int) (hlk : meth.locks = false) (dg : decode cc pc = .ok (.ireturn, 1)) (h : some (v, st) = some (r, st1)) : sw_V p l e d s m args below meth c g (sw_A g s.heap.size) (sw_QI below g args s r st1) nL pc lo [.int v] st := fun H lcs ls hP hS hl => by
  cases h
  exact W.iret X.1 X.2.1 hr (fun t ht hW => ⟨⟨_, _, rfl, ⟨rfl, rfl⟩, by rw [ht]; exact hP, va_K.moved hW.alike X.2.2.2.2.2.1⟩, hS.F ht⟩) hS.2.2 dg hlk
theorem sw_zret (X : sw_Ok p s m args c cc own nL g (sw_A g s.heap.size)) {v r : Int32} {st1 : sw_St} (hr : meth.sig.returnType = some .boolean) (hlk : meth.locks = false) (hv : v = 0 ∨ v = 1) (dg : decode cc pc = .ok (.ireturn, 1)) (h : some (v, st) = some (r, st1)) : sw_V p l e d s m args below meth c g (sw_A g s.heap.size) (sw_QI below g args s r st1) nL pc lo [.int v] st := fun H lcs ls hP hS hl => by
  cases h
  exact W.zret X.1 X.2.1 hr (by rcases hv with rfl | rfl <;> rfl) (fun t ht hW => ⟨⟨_, _, rfl, ⟨rfl, rfl⟩, by rw [ht]; exact hP, va_K.moved hW.alike X.2.2.2.2.2.1⟩, hS.F ht⟩) hS.2.2 dg hlk
theorem sw_lret (X : sw_Ok p s m args c cc own nL g (sw_A g s.heap.size)) {v r : Int64} {st1 : sw_St} (hr : meth.sig.returnType = some .long) (hlk : meth.locks = false) (dg : decode cc pc = .ok (.lreturn, 1)) (h : some (v, st) = some (r, st1)) : sw_V p l e d s m args below meth c g (sw_A g s.heap.size) (sw_QL below g args s r st1) nL pc lo [.long v] st := fun H lcs ls hP hS hl => by
  cases h
  exact W.lret X.1 X.2.1 hr (fun t ht hW => ⟨⟨_, _, rfl, ⟨rfl, rfl⟩, by rw [ht]; exact hP, va_K.moved hW.alike X.2.2.2.2.2.1⟩, hS.F ht⟩) hS.2.2 dg hlk
theorem sw_vret (X : sw_Ok p s m args c cc own nL g (sw_A g s.heap.size)) {st1 : sw_St} (hr : meth.sig.returnType = none) (hlk : meth.locks = false) (dg : decode cc pc = .ok (.return_, 1)) (h : some ((), st) = some ((), st1)) : sw_V p l e d s m args below meth c g (sw_A g s.heap.size) (sw_QV below g args s st1) nL pc lo [] st := fun H lcs ls hP hS hl => by
  cases h
  exact W.vret X.1 X.2.1 hr (fun t ht hW => ⟨⟨_, rfl, rfl, by rw [ht]; exact hP, va_K.moved hW.alike X.2.2.2.2.2.1⟩, hS.F ht⟩) hS.2.2 dg hlk
theorem sw_Asub (X : sw_Ok p s m args c cc own nL g A) {H : Heap} {lcs : List Loc} (hS : va_S A s.heap H lcs) : ∀ q, sw_A g H.size q → A q := fun q h => by
  rcases h with ⟨i, hi, rfl⟩ | h
  · exact X.2.2.2.2.2.2.2.1 i hi
  · exact X.2.2.2.2.2.2.2.2 q (Nat.le_trans hS.1 h)
theorem sw_callVI (X : sw_Ok p s m args c cc own nL g A) {y : MethodName} {bytes : ByteArray} {maxL n index o ci N d1 : Nat} {ret : Option FieldType} {C : String} {T : u_T} {ty : Nat → FieldType} {As : sw_G → List Value} {r : Int32} {st1 : sw_St} {stk : List Value} (K : sw_Cl ci C T N ty) (ho : sw_kd o = ci) (M : sw_MV y bytes maxL ret n C) (hd : d1 + 1 ≤ d) (hc : sw_CI y (.code y bytes maxL ret) d1 (fun g => .ref (g.1 o) :: As g) st r st1) (hn : (As g).length = n) (hstk : stk = (As g).reverse ++ .ref (g.1 o) :: rest) (hrest : (rest.map fun v => v.category).sum ≤ 8) (hl0 : Cond.methodLink own index y ∈ sw_tbl) (dg : decode cc pc = .ok (.invokevirtual index, 3)) (k : sw_V p l e d s m args below meth c g A Q nL (pc + 3) lo (.int r :: rest) st1) : sw_V p l e d s m args below meth c g A Q nL pc lo stk st := fun H lcs ls hP hS hl => by
  obtain ⟨hci, hcl, -⟩ := K
  obtain ⟨m1, m2, m3, m4, m5, m6⟩ := M
  have hts := X.2.2.2.2.1
  have hK := X.2.2.2.2.2.1
  have hg : GoodIn sw_tbl (Cond.code y bytes maxL ret :: sw_tbl) := sw_good m1
  have hcw : CallW (sw_rm d) s args own C index y bytes maxL ret (Cond.code y bytes maxL ret :: sw_tbl) (sw_rm d1) 0 0 n := ⟨callB_of n hts hg rfl rfl rfl (hts _ m4) (hts _ hl0) m5 ⟨hd, by show 8 + (maxL + 11) + 64 * d1 ≤ 64 * d; omega⟩, hts _ m2, hts _ m3⟩
  refine va_calli (va_runV (As := As g) (rest := rest) ⟨X.1, X.2.1, X.2.2.1, X.2.2.2.1, hts⟩ (hc l g H.size X.2.2.2.2.2.2.1) hcw ⟨sw_blind g st H.size _, va_recv hK hP hcl (by rw [sw_W_get g st (sw_ltk ho (by omega)), sw_cell_o g st ho hci]), fun U hU hW => ⟨rfl, by rw [hU], by rw [hU]; exact hP, va_K.moved hW.alike hK⟩⟩ rfl hn hl.1 hstk (lv_room hrest) dg ⟨Nat.le_refl _, Nat.le_refl _⟩) hS (fun q _ h => sw_Asub X hS q h) (sw_Asub X hS) (fun r_ u t H1 lcs1 ht hvm hw hB hz1 hk1 hS1 => ?_)
  obtain ⟨rfl, rfl⟩ := hw
  exact k H1 lcs1 ls (by rw [← ht]; exact hB.1) hS1 hl
theorem sw_callSI (X : sw_Ok p s m args c cc own nL g A) {y : MethodName} {bytes : ByteArray} {maxL n index d1 : Nat} {ret : Option FieldType} {As : sw_G → List Value} {r : Int32} {st1 : sw_St} {stk : List Value} (M : sw_MS y bytes maxL ret n) (hd : d1 + 1 ≤ d) (hc : sw_CI y (.code y bytes maxL ret) d1 As st r st1) (hn : (As g).length = n) (hstk : stk = (As g).reverse ++ rest) (hrest : (rest.map fun v => v.category).sum ≤ 8) (hl0 : Cond.methodLink own index y ∈ sw_tbl) (dg : decode cc pc = .ok (.invokestatic index, 3)) (k : sw_V p l e d s m args below meth c g A Q nL (pc + 3) lo (.int r :: rest) st1) : sw_V p l e d s m args below meth c g A Q nL pc lo stk st := fun H lcs ls hP hS hl => by
  obtain ⟨m1, m2, m4, m5, m6⟩ := M
  have hts := X.2.2.2.2.1
  have hK := X.2.2.2.2.2.1
  have hg : GoodIn sw_tbl (Cond.code y bytes maxL ret :: sw_tbl) := sw_good m1
  have hcw : CallB (sw_rm d) s args own index y bytes maxL ret (Cond.code y bytes maxL ret :: sw_tbl) (sw_rm d1) 0 0 n ∧ (Cond.static y).before args s = true := ⟨callB_of n hts hg rfl rfl rfl (hts _ m4) (hts _ hl0) m5 ⟨hd, by show 8 + (maxL + 11) + 64 * d1 ≤ 64 * d; omega⟩, hts _ m2⟩
  refine va_calli (va_runS (As := As g) (rest := rest) ⟨X.1, X.2.1, X.2.2.1, X.2.2.2.1, hts⟩ (hc l g H.size X.2.2.2.2.2.2.1) hcw ⟨sw_blind g st H.size _, fun U hU hW => ⟨rfl, by rw [hU], by rw [hU]; exact hP, va_K.moved hW.alike hK⟩⟩ rfl hn hl.1 hstk (lv_room hrest) dg ⟨Nat.le_refl _, Nat.le_refl _⟩) hS (fun q _ h => sw_Asub X hS q h) (sw_Asub X hS) (fun r_ u t H1 lcs1 ht hvm hw hB hz1 hk1 hS1 => ?_)
  obtain ⟨rfl, rfl⟩ := hw
  exact k H1 lcs1 ls (by rw [← ht]; exact hB.1) hS1 hl
theorem sw_callVL (X : sw_Ok p s m args c cc own nL g A) {y : MethodName} {bytes : ByteArray} {maxL n index o ci N d1 : Nat} {ret : Option FieldType} {C : String} {T : u_T} {ty : Nat → FieldType} {As : sw_G → List Value} {r : Int64} {st1 : sw_St} {stk : List Value} (K : sw_Cl ci C T N ty) (ho : sw_kd o = ci) (M : sw_MV y bytes maxL ret n C) (hd : d1 + 1 ≤ d) (hc : sw_CL y (.code y bytes maxL ret) d1 (fun g => .ref (g.1 o) :: As g) st r st1) (hn : (As g).length = n) (hstk : stk = (As g).reverse ++ .ref (g.1 o) :: rest) (hrest : (rest.map fun v => v.category).sum ≤ 8) (hl0 : Cond.methodLink own index y ∈ sw_tbl) (dg : decode cc pc = .ok (.invokevirtual index, 3)) (k : sw_V p l e d s m args below meth c g A Q nL (pc + 3) lo (.long r :: rest) st1) : sw_V p l e d s m args below meth c g A Q nL pc lo stk st := fun H lcs ls hP hS hl => by
  obtain ⟨hci, hcl, -⟩ := K
  obtain ⟨m1, m2, m3, m4, m5, m6⟩ := M
  have hts := X.2.2.2.2.1
  have hK := X.2.2.2.2.2.1
  have hg : GoodIn sw_tbl (Cond.code y bytes maxL ret :: sw_tbl) := sw_good m1
  have hcw : CallW (sw_rm d) s args own C index y bytes maxL ret (Cond.code y bytes maxL ret :: sw_tbl) (sw_rm d1) 0 0 n := ⟨callB_of n hts hg rfl rfl rfl (hts _ m4) (hts _ hl0) m5 ⟨hd, by show 8 + (maxL + 11) + 64 * d1 ≤ 64 * d; omega⟩, hts _ m2, hts _ m3⟩
  refine va_calll (va_runV (As := As g) (rest := rest) ⟨X.1, X.2.1, X.2.2.1, X.2.2.2.1, hts⟩ (hc l g H.size X.2.2.2.2.2.2.1) hcw ⟨sw_blind g st H.size _, va_recv hK hP hcl (by rw [sw_W_get g st (sw_ltk ho (by omega)), sw_cell_o g st ho hci]), fun U hU hW => ⟨rfl, by rw [hU], by rw [hU]; exact hP, va_K.moved hW.alike hK⟩⟩ rfl hn hl.1 hstk (lv_room hrest) dg ⟨Nat.le_refl _, Nat.le_refl _⟩) hS (fun q _ h => sw_Asub X hS q h) (sw_Asub X hS) (fun r_ u t H1 lcs1 ht hvm hw hB hz1 hk1 hS1 => ?_)
  obtain ⟨rfl, rfl⟩ := hw
  exact k H1 lcs1 ls (by rw [← ht]; exact hB.1) hS1 hl
theorem sw_callSL (X : sw_Ok p s m args c cc own nL g A) {y : MethodName} {bytes : ByteArray} {maxL n index d1 : Nat} {ret : Option FieldType} {As : sw_G → List Value} {r : Int64} {st1 : sw_St} {stk : List Value} (M : sw_MS y bytes maxL ret n) (hd : d1 + 1 ≤ d) (hc : sw_CL y (.code y bytes maxL ret) d1 As st r st1) (hn : (As g).length = n) (hstk : stk = (As g).reverse ++ rest) (hrest : (rest.map fun v => v.category).sum ≤ 8) (hl0 : Cond.methodLink own index y ∈ sw_tbl) (dg : decode cc pc = .ok (.invokestatic index, 3)) (k : sw_V p l e d s m args below meth c g A Q nL (pc + 3) lo (.long r :: rest) st1) : sw_V p l e d s m args below meth c g A Q nL pc lo stk st := fun H lcs ls hP hS hl => by
  obtain ⟨m1, m2, m4, m5, m6⟩ := M
  have hts := X.2.2.2.2.1
  have hK := X.2.2.2.2.2.1
  have hg : GoodIn sw_tbl (Cond.code y bytes maxL ret :: sw_tbl) := sw_good m1
  have hcw : CallB (sw_rm d) s args own index y bytes maxL ret (Cond.code y bytes maxL ret :: sw_tbl) (sw_rm d1) 0 0 n ∧ (Cond.static y).before args s = true := ⟨callB_of n hts hg rfl rfl rfl (hts _ m4) (hts _ hl0) m5 ⟨hd, by show 8 + (maxL + 11) + 64 * d1 ≤ 64 * d; omega⟩, hts _ m2⟩
  refine va_calll (va_runS (As := As g) (rest := rest) ⟨X.1, X.2.1, X.2.2.1, X.2.2.2.1, hts⟩ (hc l g H.size X.2.2.2.2.2.2.1) hcw ⟨sw_blind g st H.size _, fun U hU hW => ⟨rfl, by rw [hU], by rw [hU]; exact hP, va_K.moved hW.alike hK⟩⟩ rfl hn hl.1 hstk (lv_room hrest) dg ⟨Nat.le_refl _, Nat.le_refl _⟩) hS (fun q _ h => sw_Asub X hS q h) (sw_Asub X hS) (fun r_ u t H1 lcs1 ht hvm hw hB hz1 hk1 hS1 => ?_)
  obtain ⟨rfl, rfl⟩ := hw
  exact k H1 lcs1 ls (by rw [← ht]; exact hB.1) hS1 hl
theorem sw_callVV (X : sw_Ok p s m args c cc own nL g A) {y : MethodName} {bytes : ByteArray} {maxL n index o ci N d1 : Nat} {ret : Option FieldType} {C : String} {T : u_T} {ty : Nat → FieldType} {As : sw_G → List Value} {st1 : sw_St} {stk : List Value} (K : sw_Cl ci C T N ty) (ho : sw_kd o = ci) (M : sw_MV y bytes maxL ret n C) (hd : d1 + 1 ≤ d) (hc : sw_CV y (.code y bytes maxL ret) d1 (fun g => .ref (g.1 o) :: As g) st  st1) (hn : (As g).length = n) (hstk : stk = (As g).reverse ++ .ref (g.1 o) :: rest) (hrest : (rest.map fun v => v.category).sum ≤ 8) (hl0 : Cond.methodLink own index y ∈ sw_tbl) (dg : decode cc pc = .ok (.invokevirtual index, 3)) (k : sw_V p l e d s m args below meth c g A Q nL (pc + 3) lo (rest) st1) : sw_V p l e d s m args below meth c g A Q nL pc lo stk st := fun H lcs ls hP hS hl => by
  obtain ⟨hci, hcl, -⟩ := K
  obtain ⟨m1, m2, m3, m4, m5, m6⟩ := M
  have hts := X.2.2.2.2.1
  have hK := X.2.2.2.2.2.1
  have hg : GoodIn sw_tbl (Cond.code y bytes maxL ret :: sw_tbl) := sw_good m1
  have hcw : CallW (sw_rm d) s args own C index y bytes maxL ret (Cond.code y bytes maxL ret :: sw_tbl) (sw_rm d1) 0 0 n := ⟨callB_of n hts hg rfl rfl rfl (hts _ m4) (hts _ hl0) m5 ⟨hd, by show 8 + (maxL + 11) + 64 * d1 ≤ 64 * d; omega⟩, hts _ m2, hts _ m3⟩
  refine va_callv (va_runV (As := As g) (rest := rest) ⟨X.1, X.2.1, X.2.2.1, X.2.2.2.1, hts⟩ (hc l g H.size X.2.2.2.2.2.2.1) hcw ⟨sw_blind g st H.size _, va_recv hK hP hcl (by rw [sw_W_get g st (sw_ltk ho (by omega)), sw_cell_o g st ho hci]), fun U hU hW => ⟨rfl, by rw [hU], by rw [hU]; exact hP, va_K.moved hW.alike hK⟩⟩ rfl hn hl.1 hstk (lv_room hrest) dg ⟨Nat.le_refl _, Nat.le_refl _⟩) hS (fun q _ h => sw_Asub X hS q h) (sw_Asub X hS) (fun u t H1 lcs1 ht hvm hw hB hz1 hk1 hS1 => ?_)
  subst hw
  exact k H1 lcs1 ls (by rw [← ht]; exact hB.1) hS1 hl
theorem sw_callSV (X : sw_Ok p s m args c cc own nL g A) {y : MethodName} {bytes : ByteArray} {maxL n index d1 : Nat} {ret : Option FieldType} {As : sw_G → List Value} {st1 : sw_St} {stk : List Value} (M : sw_MS y bytes maxL ret n) (hd : d1 + 1 ≤ d) (hc : sw_CV y (.code y bytes maxL ret) d1 As st  st1) (hn : (As g).length = n) (hstk : stk = (As g).reverse ++ rest) (hrest : (rest.map fun v => v.category).sum ≤ 8) (hl0 : Cond.methodLink own index y ∈ sw_tbl) (dg : decode cc pc = .ok (.invokestatic index, 3)) (k : sw_V p l e d s m args below meth c g A Q nL (pc + 3) lo (rest) st1) : sw_V p l e d s m args below meth c g A Q nL pc lo stk st := fun H lcs ls hP hS hl => by
  obtain ⟨m1, m2, m4, m5, m6⟩ := M
  have hts := X.2.2.2.2.1
  have hK := X.2.2.2.2.2.1
  have hg : GoodIn sw_tbl (Cond.code y bytes maxL ret :: sw_tbl) := sw_good m1
  have hcw : CallB (sw_rm d) s args own index y bytes maxL ret (Cond.code y bytes maxL ret :: sw_tbl) (sw_rm d1) 0 0 n ∧ (Cond.static y).before args s = true := ⟨callB_of n hts hg rfl rfl rfl (hts _ m4) (hts _ hl0) m5 ⟨hd, by show 8 + (maxL + 11) + 64 * d1 ≤ 64 * d; omega⟩, hts _ m2⟩
  refine va_callv (va_runS (As := As g) (rest := rest) ⟨X.1, X.2.1, X.2.2.1, X.2.2.2.1, hts⟩ (hc l g H.size X.2.2.2.2.2.2.1) hcw ⟨sw_blind g st H.size _, fun U hU hW => ⟨rfl, by rw [hU], by rw [hU]; exact hP, va_K.moved hW.alike hK⟩⟩ rfl hn hl.1 hstk (lv_room hrest) dg ⟨Nat.le_refl _, Nat.le_refl _⟩) hS (fun q _ h => sw_Asub X hS q h) (sw_Asub X hS) (fun u t H1 lcs1 ht hvm hw hB hz1 hk1 hS1 => ?_)
  subst hw
  exact k H1 lcs1 ls (by rw [← ht]; exact hB.1) hS1 hl
theorem sw_mmax (X : sw_Ok p s m args c cc own nL g A) {x y : Int32} {index : Nat} (h1 : Cond.methodLink own index Lib.Math.max.name ∈ sw_tbl) (h2 : Cond.static Lib.Math.max.name ∈ sw_tbl) (h3 : Cond.initialized "java/lang/Math" ∈ sw_tbl) (h4 : Cond.code Lib.Math.max.name Lib.Math.max.code 2 (some .int) ∈ sw_tbl) (hd : 1 ≤ d) (hrest : (rest.map fun v => v.category).sum ≤ 8) (dg : decode cc pc = .ok (.invokestatic index, 3)) (k : sw_V p l e d s m args below meth c g A Q nL (pc + 3) lo (.int (if x < y then y else x) :: rest) st) : sw_V p l e d s m args below meth c g A Q nL pc lo (.int y :: .int x :: rest) st := fun H lcs ls hP hS hl =>
  va_mmax X.1 X.2.1 (X.2.2.1.trans hl.1.symm) X.2.2.2.1 (X.2.2.2.2.1 _ h1) (X.2.2.2.2.1 _ h2) (X.2.2.2.2.1 _ h3) (X.2.2.2.2.1 _ h4) hd (by show _ + 13 ≤ 64 * d; omega) (Nat.le_refl _) (Nat.le_refl _) dg (k H lcs ls hP hS hl)
theorem sw_mmin (X : sw_Ok p s m args c cc own nL g A) {x y : Int32} {index : Nat} (h1 : Cond.methodLink own index Lib.Math.min.name ∈ sw_tbl) (h2 : Cond.static Lib.Math.min.name ∈ sw_tbl) (h3 : Cond.initialized "java/lang/Math" ∈ sw_tbl) (h4 : Cond.code Lib.Math.min.name Lib.Math.min.code 2 (some .int) ∈ sw_tbl) (hd : 1 ≤ d) (hrest : (rest.map fun v => v.category).sum ≤ 8) (dg : decode cc pc = .ok (.invokestatic index, 3)) (k : sw_V p l e d s m args below meth c g A Q nL (pc + 3) lo (.int (if y < x then y else x) :: rest) st) : sw_V p l e d s m args below meth c g A Q nL pc lo (.int y :: .int x :: rest) st := fun H lcs ls hP hS hl =>
  va_mmin X.1 X.2.1 (X.2.2.1.trans hl.1.symm) X.2.2.2.1 (X.2.2.2.2.1 _ h1) (X.2.2.2.2.1 _ h2) (X.2.2.2.2.1 _ h3) (X.2.2.2.2.1 _ h4) hd (by show _ + 13 ≤ 64 * d; omega) (Nat.le_refl _) (Nat.le_refl _) dg (k H lcs ls hP hS hl)
theorem sw_copy (X : sw_Ok p s m args c cc own nL g A) {a b n0 n1 : Nat} {sp dp n : Int32} {index : Nat} (ha : sw_kd a = 8) (hn0 : sw_ln a = n0) (hb : sw_kd b = 8) (hn1 : sw_ln b = n1) (h1 : ¬ sp < 0) (h2 : ¬ dp < 0) (h3 : ¬ n < 0) (h4 : sp.toNatClampNeg + n.toNatClampNeg ≤ n0) (h5 : dp.toNatClampNeg + n.toNatClampNeg ≤ n1)
    (m1 : Cond.methodLink own index arraycopyName ∈ sw_tbl) (m2 : Cond.native arraycopyName ∈ sw_tbl) (m3 : Cond.static arraycopyName ∈ sw_tbl) (m4 : Cond.initialized "java/lang/System" ∈ sw_tbl) (hd : 1 ≤ d) (hrest : (rest.map fun v => v.category).sum ≤ 8) (dg : decode cc pc = .ok (.invokestatic index, 3))
    (k : ∀ st1, st1 = (sw_setA st b (va_cpy (st.1 a) (st.1 b) sp.toNatClampNeg dp.toNatClampNeg n.toNatClampNeg)) → sw_V p l e d s m args below meth c g A Q nL (pc + 3) lo rest st1) : sw_V p l e d s m args below meth c g A Q nL pc lo (.int n :: .int dp :: .ref (g.1 b) :: .int sp :: .ref (g.1 a) :: rest) st := fun H lcs ls hP hS hl => by
  refine va_copyi X.1 X.2.1 (X.2.2.1.trans hl.1.symm) X.2.2.2.1 (X.2.2.2.2.1 _ m1) (X.2.2.2.2.1 _ m2) (X.2.2.2.2.1 _ m3) (X.2.2.2.2.1 _ m4) X.2.2.2.2.2.1 hP (sw_W_D g A X.2.2.2.2.2.2.1 X.2.2.2.2.2.2.2.1 st) hS a b 1 1 (by rw [sw_W_get g st (sw_ltk ha (by decide)), sw_cell_a g st ha hn0 (by decide) (by decide)]) (by rw [sw_W_get g st (sw_ltk hb (by decide)), sw_cell_a g st hb hn1 (by decide) (by decide)]) rfl rfl rfl h1 h2 h3 h4 h5 (fun _ _ => rfl) hd ?_ dg (fun H1 lcs1 hP1 hD1 hS1 => ?_)
  · have e : nativeFrameWords "java/lang/System" "arraycopy" 5 + 11 ≤ 56 := by decide +kernel
    show _ + (nativeFrameWords "java/lang/System" "arraycopy" 5 + 11) ≤ 64 * d
    omega
  · rw [sw_set_a g st hb hn1 (by decide) (by decide)] at hP1
    exact k _ rfl H1 lcs1 ls hP1 hS1 hl
end SWC
end
section
theorem wc_J6_265 : Cond.constant RJ6 265 1431655765 ∈ sw_tbl := sw_mem (List.mem_append_right _ (List.mem_append_right _ (List.mem_append_left _ (List.mem_of_getElem? (i := 170) (by decide +kernel))))) rfl
theorem wc_J6_266 : Cond.constant RJ6 266 858993459 ∈ sw_tbl := sw_mem (List.mem_append_right _ (List.mem_append_right _ (List.mem_append_left _ (List.mem_of_getElem? (i := 171) (by decide +kernel))))) rfl
theorem wc_J6_267 : Cond.constant RJ6 267 252645135 ∈ sw_tbl := sw_mem (List.mem_append_right _ (List.mem_append_right _ (List.mem_append_left _ (List.mem_of_getElem? (i := 172) (by decide +kernel))))) rfl
theorem wl_X4_117 : Cond.constantLong RX4 117 12 ∈ sw_tbl := sw_mem (List.mem_append_right _ (List.mem_append_right _ (List.mem_append_right _ (List.mem_append_left _ (List.mem_of_getElem? (i := 202) (by decide +kernel)))))) rfl
theorem wl_X5_321 : Cond.constantLong RX5 321 2147483647 ∈ sw_tbl := sw_mem (List.mem_append_right _ (List.mem_append_right _ (List.mem_append_right _ (List.mem_append_left _ (List.mem_of_getElem? (i := 211) (by decide +kernel)))))) rfl
theorem wl_X5_323 : Cond.constantLong RX5 323 48271 ∈ sw_tbl := sw_mem (List.mem_append_right _ (List.mem_append_right _ (List.mem_append_right _ (List.mem_append_left _ (List.mem_of_getElem? (i := 212) (by decide +kernel)))))) rfl
theorem wl_X5_342 : Cond.constantLong RX5 342 17 ∈ sw_tbl := sw_mem (List.mem_append_right _ (List.mem_append_right _ (List.mem_append_right _ (List.mem_append_right _ (List.mem_append_left _ (List.mem_of_getElem? (i := 15) (by decide +kernel))))))) rfl
theorem wl_X5_344 : Cond.constantLong RX5 344 31 ∈ sw_tbl := sw_mem (List.mem_append_right _ (List.mem_append_right _ (List.mem_append_right _ (List.mem_append_right _ (List.mem_append_left _ (List.mem_of_getElem? (i := 16) (by decide +kernel))))))) rfl
theorem wl_X5_357 : Cond.constantLong RX5 357 3 ∈ sw_tbl := sw_mem (List.mem_append_right _ (List.mem_append_right _ (List.mem_append_right _ (List.mem_append_left _ (List.mem_of_getElem? (i := 217) (by decide +kernel)))))) rfl
theorem wl_X5_359 : Cond.constantLong RX5 359 8 ∈ sw_tbl := sw_mem (List.mem_append_right _ (List.mem_append_right _ (List.mem_append_right _ (List.mem_append_left _ (List.mem_of_getElem? (i := 218) (by decide +kernel)))))) rfl
theorem wl_X6_179 : Cond.constantLong RX6 179 2 ∈ sw_tbl := sw_mem (List.mem_append_right _ (List.mem_append_right _ (List.mem_append_right _ (List.mem_append_right _ (List.mem_append_right _ (List.mem_append_left _ (List.mem_of_getElem? (i := 56) (by decide +kernel)))))))) rfl
theorem wl_X6_238 : Cond.constantLong RX6 238 11 ∈ sw_tbl := sw_mem (List.mem_append_right _ (List.mem_append_right _ (List.mem_append_right _ (List.mem_append_right _ (List.mem_append_right _ (List.mem_append_left _ (List.mem_of_getElem? (i := 117) (by decide +kernel)))))))) rfl
theorem wl_X6_243 : Cond.constantLong RX6 243 10 ∈ sw_tbl := sw_mem (List.mem_append_right _ (List.mem_append_right _ (List.mem_append_right _ (List.mem_append_right _ (List.mem_append_right _ (List.mem_append_left _ (List.mem_of_getElem? (i := 150) (by decide +kernel)))))))) rfl
theorem wl_X6_254 : Cond.constantLong RX6 254 4 ∈ sw_tbl := sw_mem (List.mem_append_right _ (List.mem_append_right _ (List.mem_append_right _ (List.mem_append_right _ (List.mem_append_right _ (List.mem_append_left _ (List.mem_of_getElem? (i := 179) (by decide +kernel)))))))) rfl
theorem wl_X6_259 : Cond.constantLong RX6 259 12 ∈ sw_tbl := sw_mem (List.mem_append_right _ (List.mem_append_right _ (List.mem_append_right _ (List.mem_append_right _ (List.mem_append_right _ (List.mem_append_left _ (List.mem_of_getElem? (i := 200) (by decide +kernel)))))))) rfl
theorem wl_X6_269 : Cond.constantLong RX6 269 20 ∈ sw_tbl := sw_mem (List.mem_append_right _ (List.mem_append_right _ (List.mem_append_right _ (List.mem_append_right _ (List.mem_append_right _ (List.mem_append_left _ (List.mem_of_getElem? (i := 217) (by decide +kernel)))))))) rfl
theorem wl_X6_271 : Cond.constantLong RX6 271 2147483646 ∈ sw_tbl := sw_mem (List.mem_append_right _ (List.mem_append_right _ (List.mem_append_right _ (List.mem_append_right _ (List.mem_append_right _ (List.mem_append_left _ (List.mem_of_getElem? (i := 218) (by decide +kernel)))))))) rfl
theorem wl_X6_273 : Cond.constantLong RX6 273 48271 ∈ sw_tbl := sw_mem (List.mem_append_right _ (List.mem_append_right _ (List.mem_append_right _ (List.mem_append_right _ (List.mem_append_right _ (List.mem_append_left _ (List.mem_of_getElem? (i := 219) (by decide +kernel)))))))) rfl
theorem wl_X6_275 : Cond.constantLong RX6 275 2147483647 ∈ sw_tbl := sw_mem (List.mem_append_right _ (List.mem_append_right _ (List.mem_append_right _ (List.mem_append_right _ (List.mem_append_right _ (List.mem_append_left _ (List.mem_of_getElem? (i := 220) (by decide +kernel)))))))) rfl
theorem wl_X6_277 : Cond.constantLong RX6 277 8 ∈ sw_tbl := sw_mem (List.mem_append_right _ (List.mem_append_right _ (List.mem_append_right _ (List.mem_append_right _ (List.mem_append_right _ (List.mem_append_left _ (List.mem_of_getElem? (i := 221) (by decide +kernel)))))))) rfl
theorem wl_X6_288 : Cond.constantLong RX6 288 17 ∈ sw_tbl := sw_mem (List.mem_append_right _ (List.mem_append_right _ (List.mem_append_right _ (List.mem_append_right _ (List.mem_append_right _ (List.mem_append_right _ (List.mem_of_getElem? (i := 22) (by decide +kernel)))))))) rfl
theorem wl_X6_290 : Cond.constantLong RX6 290 31 ∈ sw_tbl := sw_mem (List.mem_append_right _ (List.mem_append_right _ (List.mem_append_right _ (List.mem_append_right _ (List.mem_append_right _ (List.mem_append_right _ (List.mem_of_getElem? (i := 23) (by decide +kernel)))))))) rfl
theorem wl_X6_61 : Cond.constantLong RX6 61 5 ∈ sw_tbl := sw_mem (List.mem_append_right _ (List.mem_append_right _ (List.mem_append_right _ (List.mem_append_right _ (List.mem_append_left _ (List.mem_of_getElem? (i := 119) (by decide +kernel))))))) rfl
theorem wl_X6_67 : Cond.constantLong RX6 67 3 ∈ sw_tbl := sw_mem (List.mem_append_right _ (List.mem_append_right _ (List.mem_append_right _ (List.mem_append_right _ (List.mem_append_left _ (List.mem_of_getElem? (i := 170) (by decide +kernel))))))) rfl
theorem wf_X0_15 : Cond.fieldLink RX0 15 (TX0 2).1 (TX0 2).2.1 (TX0 2).2.2.1 ∈ sw_tbl := sw_mem (List.mem_append_right _ (List.mem_append_left _ (List.mem_of_getElem? (i := 193) (by decide +kernel)))) rfl
theorem wf_X0_18 : Cond.fieldLink RX0 18 (TX0 3).1 (TX0 3).2.1 (TX0 3).2.2.1 ∈ sw_tbl := sw_mem (List.mem_append_right _ (List.mem_append_left _ (List.mem_of_getElem? (i := 195) (by decide +kernel)))) rfl
theorem wf_X0_21 : Cond.fieldLink RX0 21 (TX0 4).1 (TX0 4).2.1 (TX0 4).2.2.1 ∈ sw_tbl := sw_mem (List.mem_append_right _ (List.mem_append_left _ (List.mem_of_getElem? (i := 197) (by decide +kernel)))) rfl
theorem wf_X0_24 : Cond.fieldLink RX0 24 (TX0 5).1 (TX0 5).2.1 (TX0 5).2.2.1 ∈ sw_tbl := sw_mem (List.mem_append_right _ (List.mem_append_left _ (List.mem_of_getElem? (i := 199) (by decide +kernel)))) rfl
theorem wf_X0_27 : Cond.fieldLink RX0 27 (TX0 6).1 (TX0 6).2.1 (TX0 6).2.2.1 ∈ sw_tbl := sw_mem (List.mem_append_right _ (List.mem_append_left _ (List.mem_of_getElem? (i := 201) (by decide +kernel)))) rfl
theorem wf_X0_30 : Cond.fieldLink RX0 30 (TX0 7).1 (TX0 7).2.1 (TX0 7).2.2.1 ∈ sw_tbl := sw_mem (List.mem_append_right _ (List.mem_append_left _ (List.mem_of_getElem? (i := 203) (by decide +kernel)))) rfl
theorem wf_X0_34 : Cond.fieldLink RX0 34 (TX0 0).1 (TX0 0).2.1 (TX0 0).2.2.1 ∈ sw_tbl := sw_mem (List.mem_append_right _ (List.mem_append_left _ (List.mem_of_getElem? (i := 190) (by decide +kernel)))) rfl
theorem wf_X0_52 : Cond.fieldLink RX0 52 (TX4 11).1 (TX4 11).2.1 (TX4 11).2.2.1 ∈ sw_tbl := sw_mem (List.mem_append_right _ (List.mem_append_left _ (List.mem_of_getElem? (i := 63) (by decide +kernel)))) rfl
theorem wf_X0_9 : Cond.fieldLink RX0 9 (TX0 1).1 (TX0 1).2.1 (TX0 1).2.2.1 ∈ sw_tbl := sw_mem (List.mem_append_right _ (List.mem_append_left _ (List.mem_of_getElem? (i := 191) (by decide +kernel)))) rfl
theorem wf_X1_15 : Cond.fieldLink RX1 15 (TX1 2).1 (TX1 2).2.1 (TX1 2).2.2.1 ∈ sw_tbl := sw_mem (List.mem_append_right _ (List.mem_append_left _ (List.mem_of_getElem? (i := 128) (by decide +kernel)))) rfl
theorem wf_X1_18 : Cond.fieldLink RX1 18 (TX1 3).1 (TX1 3).2.1 (TX1 3).2.2.1 ∈ sw_tbl := sw_mem (List.mem_append_right _ (List.mem_append_left _ (List.mem_of_getElem? (i := 129) (by decide +kernel)))) rfl
theorem wf_X1_22 : Cond.fieldLink RX1 22 (TX1 4).1 (TX1 4).2.1 (TX1 4).2.2.1 ∈ sw_tbl := sw_mem (List.mem_append_right _ (List.mem_append_left _ (List.mem_of_getElem? (i := 130) (by decide +kernel)))) rfl
theorem wf_X1_25 : Cond.fieldLink RX1 25 (TX1 5).1 (TX1 5).2.1 (TX1 5).2.2.1 ∈ sw_tbl := sw_mem (List.mem_append_right _ (List.mem_append_left _ (List.mem_of_getElem? (i := 132) (by decide +kernel)))) rfl
theorem wf_X1_28 : Cond.fieldLink RX1 28 (TX1 6).1 (TX1 6).2.1 (TX1 6).2.2.1 ∈ sw_tbl := sw_mem (List.mem_append_right _ (List.mem_append_left _ (List.mem_of_getElem? (i := 134) (by decide +kernel)))) rfl
theorem wf_X1_31 : Cond.fieldLink RX1 31 (TX1 7).1 (TX1 7).2.1 (TX1 7).2.2.1 ∈ sw_tbl := sw_mem (List.mem_append_right _ (List.mem_append_left _ (List.mem_of_getElem? (i := 136) (by decide +kernel)))) rfl
theorem wf_X1_34 : Cond.fieldLink RX1 34 (TX1 8).1 (TX1 8).2.1 (TX1 8).2.2.1 ∈ sw_tbl := sw_mem (List.mem_append_right _ (List.mem_append_left _ (List.mem_of_getElem? (i := 138) (by decide +kernel)))) rfl
theorem wf_X1_37 : Cond.fieldLink RX1 37 (TX1 0).1 (TX1 0).2.1 (TX1 0).2.2.1 ∈ sw_tbl := sw_mem (List.mem_append_right _ (List.mem_append_left _ (List.mem_of_getElem? (i := 126) (by decide +kernel)))) rfl
theorem wf_X1_41 : Cond.fieldLink RX1 41 (TX4 7).1 (TX4 7).2.1 (TX4 7).2.2.1 ∈ sw_tbl := sw_mem (List.mem_append_right _ (List.mem_append_left _ (List.mem_of_getElem? (i := 52) (by decide +kernel)))) rfl
theorem wf_X1_46 : Cond.fieldLink RX1 46 (TX4 11).1 (TX4 11).2.1 (TX4 11).2.2.1 ∈ sw_tbl := sw_mem (List.mem_append_right _ (List.mem_append_left _ (List.mem_of_getElem? (i := 62) (by decide +kernel)))) rfl
theorem wf_X1_61 : Cond.fieldLink RX1 61 (TX4 0).1 (TX4 0).2.1 (TX4 0).2.2.1 ∈ sw_tbl := sw_mem (List.mem_append_right _ (List.mem_append_left _ (List.mem_of_getElem? (i := 33) (by decide +kernel)))) rfl
theorem wf_X1_68 : Cond.fieldLink RX1 68 (TX4 4).1 (TX4 4).2.1 (TX4 4).2.2.1 ∈ sw_tbl := sw_mem (List.mem_append_right _ (List.mem_append_left _ (List.mem_of_getElem? (i := 43) (by decide +kernel)))) rfl
theorem wf_X1_9 : Cond.fieldLink RX1 9 (TX1 1).1 (TX1 1).2.1 (TX1 1).2.2.1 ∈ sw_tbl := sw_mem (List.mem_append_right _ (List.mem_append_left _ (List.mem_of_getElem? (i := 127) (by decide +kernel)))) rfl
theorem wf_X2_15 : Cond.fieldLink RX2 15 (TX2 2).1 (TX2 2).2.1 (TX2 2).2.2.1 ∈ sw_tbl := sw_mem (List.mem_append_right _ (List.mem_append_left _ (List.mem_of_getElem? (i := 167) (by decide +kernel)))) rfl
theorem wf_X2_18 : Cond.fieldLink RX2 18 (TX2 3).1 (TX2 3).2.1 (TX2 3).2.2.1 ∈ sw_tbl := sw_mem (List.mem_append_right _ (List.mem_append_left _ (List.mem_of_getElem? (i := 169) (by decide +kernel)))) rfl
theorem wf_X2_22 : Cond.fieldLink RX2 22 (TX2 4).1 (TX2 4).2.1 (TX2 4).2.2.1 ∈ sw_tbl := sw_mem (List.mem_append_right _ (List.mem_append_left _ (List.mem_of_getElem? (i := 171) (by decide +kernel)))) rfl
theorem wf_X2_25 : Cond.fieldLink RX2 25 (TX2 0).1 (TX2 0).2.1 (TX2 0).2.2.1 ∈ sw_tbl := sw_mem (List.mem_append_right _ (List.mem_append_left _ (List.mem_of_getElem? (i := 165) (by decide +kernel)))) rfl
theorem wf_X2_41 : Cond.fieldLink RX2 41 (TX4 7).1 (TX4 7).2.1 (TX4 7).2.2.1 ∈ sw_tbl := sw_mem (List.mem_append_right _ (List.mem_append_left _ (List.mem_of_getElem? (i := 51) (by decide +kernel)))) rfl
theorem wf_X2_44 : Cond.fieldLink RX2 44 (TX4 11).1 (TX4 11).2.1 (TX4 11).2.2.1 ∈ sw_tbl := sw_mem (List.mem_append_right _ (List.mem_append_left _ (List.mem_of_getElem? (i := 61) (by decide +kernel)))) rfl
theorem wf_X2_57 : Cond.fieldLink RX2 57 (TX4 0).1 (TX4 0).2.1 (TX4 0).2.2.1 ∈ sw_tbl := sw_mem (List.mem_append_right _ (List.mem_append_left _ (List.mem_of_getElem? (i := 32) (by decide +kernel)))) rfl
theorem wf_X2_9 : Cond.fieldLink RX2 9 (TX2 1).1 (TX2 1).2.1 (TX2 1).2.2.1 ∈ sw_tbl := sw_mem (List.mem_append_right _ (List.mem_append_left _ (List.mem_of_getElem? (i := 166) (by decide +kernel)))) rfl
theorem wf_X3_15 : Cond.fieldLink RX3 15 (TX3 1).1 (TX3 1).2.1 (TX3 1).2.2.1 ∈ sw_tbl := sw_mem (List.mem_append_right _ (List.mem_append_left _ (List.mem_of_getElem? (i := 110) (by decide +kernel)))) rfl
theorem wf_X3_19 : Cond.fieldLink RX3 19 (TX3 2).1 (TX3 2).2.1 (TX3 2).2.2.1 ∈ sw_tbl := sw_mem (List.mem_append_right _ (List.mem_append_left _ (List.mem_of_getElem? (i := 111) (by decide +kernel)))) rfl
theorem wf_X3_22 : Cond.fieldLink RX3 22 (TX4 0).1 (TX4 0).2.1 (TX4 0).2.2.1 ∈ sw_tbl := sw_mem (List.mem_append_right _ (List.mem_append_left _ (List.mem_of_getElem? (i := 31) (by decide +kernel)))) rfl
theorem wf_X3_40 : Cond.fieldLink RX3 40 (TX4 5).1 (TX4 5).2.1 (TX4 5).2.2.1 ∈ sw_tbl := sw_mem (List.mem_append_right _ (List.mem_append_left _ (List.mem_of_getElem? (i := 47) (by decide +kernel)))) rfl
theorem wf_X3_43 : Cond.fieldLink RX3 43 (TX4 6).1 (TX4 6).2.1 (TX4 6).2.2.1 ∈ sw_tbl := sw_mem (List.mem_append_right _ (List.mem_append_left _ (List.mem_of_getElem? (i := 49) (by decide +kernel)))) rfl
theorem wf_X3_46 : Cond.fieldLink RX3 46 (TX4 1).1 (TX4 1).2.1 (TX4 1).2.2.1 ∈ sw_tbl := sw_mem (List.mem_append_right _ (List.mem_append_left _ (List.mem_of_getElem? (i := 36) (by decide +kernel)))) rfl
theorem wf_X3_54 : Cond.fieldLink RX3 54 (TX4 2).1 (TX4 2).2.1 (TX4 2).2.2.1 ∈ sw_tbl := sw_mem (List.mem_append_right _ (List.mem_append_left _ (List.mem_of_getElem? (i := 38) (by decide +kernel)))) rfl
theorem wf_X3_57 : Cond.fieldLink RX3 57 (TX4 3).1 (TX4 3).2.1 (TX4 3).2.2.1 ∈ sw_tbl := sw_mem (List.mem_append_right _ (List.mem_append_left _ (List.mem_of_getElem? (i := 40) (by decide +kernel)))) rfl
theorem wf_X3_60 : Cond.fieldLink RX3 60 (TX4 4).1 (TX4 4).2.1 (TX4 4).2.2.1 ∈ sw_tbl := sw_mem (List.mem_append_right _ (List.mem_append_left _ (List.mem_of_getElem? (i := 44) (by decide +kernel)))) rfl
theorem wf_X3_9 : Cond.fieldLink RX3 9 (TX3 0).1 (TX3 0).2.1 (TX3 0).2.2.1 ∈ sw_tbl := sw_mem (List.mem_append_right _ (List.mem_append_left _ (List.mem_of_getElem? (i := 109) (by decide +kernel)))) rfl
theorem wf_X4_15 : Cond.fieldLink RX4 15 (TX4 1).1 (TX4 1).2.1 (TX4 1).2.2.1 ∈ sw_tbl := sw_mem (List.mem_append_right _ (List.mem_append_left _ (List.mem_of_getElem? (i := 35) (by decide +kernel)))) rfl
theorem wf_X4_19 : Cond.fieldLink RX4 19 (TX4 2).1 (TX4 2).2.1 (TX4 2).2.2.1 ∈ sw_tbl := sw_mem (List.mem_append_right _ (List.mem_append_left _ (List.mem_of_getElem? (i := 37) (by decide +kernel)))) rfl
theorem wf_X4_22 : Cond.fieldLink RX4 22 (TX4 3).1 (TX4 3).2.1 (TX4 3).2.2.1 ∈ sw_tbl := sw_mem (List.mem_append_right _ (List.mem_append_left _ (List.mem_of_getElem? (i := 39) (by decide +kernel)))) rfl
theorem wf_X4_25 : Cond.fieldLink RX4 25 (TX4 4).1 (TX4 4).2.1 (TX4 4).2.2.1 ∈ sw_tbl := sw_mem (List.mem_append_right _ (List.mem_append_left _ (List.mem_of_getElem? (i := 42) (by decide +kernel)))) rfl
theorem wf_X4_28 : Cond.fieldLink RX4 28 (TX4 5).1 (TX4 5).2.1 (TX4 5).2.2.1 ∈ sw_tbl := sw_mem (List.mem_append_right _ (List.mem_append_left _ (List.mem_of_getElem? (i := 46) (by decide +kernel)))) rfl
theorem wf_X4_31 : Cond.fieldLink RX4 31 (TX4 6).1 (TX4 6).2.1 (TX4 6).2.2.1 ∈ sw_tbl := sw_mem (List.mem_append_right _ (List.mem_append_left _ (List.mem_of_getElem? (i := 48) (by decide +kernel)))) rfl
theorem wf_X4_34 : Cond.fieldLink RX4 34 (TX4 7).1 (TX4 7).2.1 (TX4 7).2.2.1 ∈ sw_tbl := sw_mem (List.mem_append_right _ (List.mem_append_left _ (List.mem_of_getElem? (i := 50) (by decide +kernel)))) rfl
theorem wf_X4_37 : Cond.fieldLink RX4 37 (TX4 8).1 (TX4 8).2.1 (TX4 8).2.2.1 ∈ sw_tbl := sw_mem (List.mem_append_right _ (List.mem_append_left _ (List.mem_of_getElem? (i := 54) (by decide +kernel)))) rfl
theorem wf_X4_40 : Cond.fieldLink RX4 40 (TX4 9).1 (TX4 9).2.1 (TX4 9).2.2.1 ∈ sw_tbl := sw_mem (List.mem_append_right _ (List.mem_append_left _ (List.mem_of_getElem? (i := 56) (by decide +kernel)))) rfl
theorem wf_X4_43 : Cond.fieldLink RX4 43 (TX4 10).1 (TX4 10).2.1 (TX4 10).2.2.1 ∈ sw_tbl := sw_mem (List.mem_append_right _ (List.mem_append_left _ (List.mem_of_getElem? (i := 58) (by decide +kernel)))) rfl
theorem wf_X4_46 : Cond.fieldLink RX4 46 (TX4 11).1 (TX4 11).2.1 (TX4 11).2.2.1 ∈ sw_tbl := sw_mem (List.mem_append_right _ (List.mem_append_left _ (List.mem_of_getElem? (i := 60) (by decide +kernel)))) rfl
theorem wf_X4_49 : Cond.fieldLink RX4 49 (TX4 12).1 (TX4 12).2.1 (TX4 12).2.2.1 ∈ sw_tbl := sw_mem (List.mem_append_right _ (List.mem_append_left _ (List.mem_of_getElem? (i := 65) (by decide +kernel)))) rfl
theorem wf_X4_52 : Cond.fieldLink RX4 52 (TX4 13).1 (TX4 13).2.1 (TX4 13).2.2.1 ∈ sw_tbl := sw_mem (List.mem_append_right _ (List.mem_append_left _ (List.mem_of_getElem? (i := 66) (by decide +kernel)))) rfl
theorem wf_X4_55 : Cond.fieldLink RX4 55 (TX4 14).1 (TX4 14).2.1 (TX4 14).2.2.1 ∈ sw_tbl := sw_mem (List.mem_append_right _ (List.mem_append_left _ (List.mem_of_getElem? (i := 67) (by decide +kernel)))) rfl
theorem wf_X4_9 : Cond.fieldLink RX4 9 (TX4 0).1 (TX4 0).2.1 (TX4 0).2.2.1 ∈ sw_tbl := sw_mem (List.mem_append_right _ (List.mem_append_left _ (List.mem_of_getElem? (i := 30) (by decide +kernel)))) rfl
theorem wf_X5_11 : Cond.fieldLink RX5 11 (TX5 0).1 (TX5 0).2.1 (TX5 0).2.2.1 ∈ sw_tbl := sw_mem (List.mem_append_right _ (List.mem_append_left _ (List.mem_of_getElem? (i := 225) (by decide +kernel)))) rfl
theorem wf_X5_138 : Cond.fieldLink RX5 138 (TX4 0).1 (TX4 0).2.1 (TX4 0).2.2.1 ∈ sw_tbl := sw_mem (List.mem_append_right _ (List.mem_append_left _ (List.mem_of_getElem? (i := 34) (by decide +kernel)))) rfl
theorem wf_X5_14 : Cond.fieldLink RX5 14 (TX5 1).1 (TX5 1).2.1 (TX5 1).2.2.1 ∈ sw_tbl := sw_mem (List.mem_append_right _ (List.mem_append_left _ (List.mem_of_getElem? (i := 226) (by decide +kernel)))) rfl
theorem wf_X5_154 : Cond.fieldLink RX5 154 (TX4 14).1 (TX4 14).2.1 (TX4 14).2.2.1 ∈ sw_tbl := sw_mem (List.mem_append_right _ (List.mem_append_left _ (List.mem_of_getElem? (i := 68) (by decide +kernel)))) rfl
theorem wf_X5_157 : Cond.fieldLink RX5 157 (TX4 3).1 (TX4 3).2.1 (TX4 3).2.2.1 ∈ sw_tbl := sw_mem (List.mem_append_right _ (List.mem_append_left _ (List.mem_of_getElem? (i := 41) (by decide +kernel)))) rfl
theorem wf_X5_170 : Cond.fieldLink RX5 170 (TX4 7).1 (TX4 7).2.1 (TX4 7).2.2.1 ∈ sw_tbl := sw_mem (List.mem_append_right _ (List.mem_append_left _ (List.mem_of_getElem? (i := 53) (by decide +kernel)))) rfl
theorem wf_X5_173 : Cond.fieldLink RX5 173 (TX4 11).1 (TX4 11).2.1 (TX4 11).2.2.1 ∈ sw_tbl := sw_mem (List.mem_append_right _ (List.mem_append_left _ (List.mem_of_getElem? (i := 64) (by decide +kernel)))) rfl
theorem wf_X5_184 : Cond.fieldLink RX5 184 (TX4 9).1 (TX4 9).2.1 (TX4 9).2.2.1 ∈ sw_tbl := sw_mem (List.mem_append_right _ (List.mem_append_left _ (List.mem_of_getElem? (i := 57) (by decide +kernel)))) rfl
theorem wf_X5_187 : Cond.fieldLink RX5 187 (TX4 8).1 (TX4 8).2.1 (TX4 8).2.2.1 ∈ sw_tbl := sw_mem (List.mem_append_right _ (List.mem_append_left _ (List.mem_of_getElem? (i := 55) (by decide +kernel)))) rfl
theorem wf_X5_20 : Cond.fieldLink RX5 20 (TX5 2).1 (TX5 2).2.1 (TX5 2).2.2.1 ∈ sw_tbl := sw_mem (List.mem_append_right _ (List.mem_append_left _ (List.mem_of_getElem? (i := 227) (by decide +kernel)))) rfl
theorem wf_X5_208 : Cond.fieldLink RX5 208 (TX4 4).1 (TX4 4).2.1 (TX4 4).2.2.1 ∈ sw_tbl := sw_mem (List.mem_append_right _ (List.mem_append_left _ (List.mem_of_getElem? (i := 45) (by decide +kernel)))) rfl
theorem wf_X5_221 : Cond.fieldLink RX5 221 (TX2 2).1 (TX2 2).2.1 (TX2 2).2.2.1 ∈ sw_tbl := sw_mem (List.mem_append_right _ (List.mem_append_left _ (List.mem_of_getElem? (i := 168) (by decide +kernel)))) rfl
theorem wf_X5_224 : Cond.fieldLink RX5 224 (TX2 3).1 (TX2 3).2.1 (TX2 3).2.2.1 ∈ sw_tbl := sw_mem (List.mem_append_right _ (List.mem_append_left _ (List.mem_of_getElem? (i := 170) (by decide +kernel)))) rfl
theorem wf_X5_23 : Cond.fieldLink RX5 23 (TX5 3).1 (TX5 3).2.1 (TX5 3).2.2.1 ∈ sw_tbl := sw_mem (List.mem_append_right _ (List.mem_append_left _ (List.mem_of_getElem? (i := 228) (by decide +kernel)))) rfl
theorem wf_X5_231 : Cond.fieldLink RX5 231 (TX2 4).1 (TX2 4).2.1 (TX2 4).2.2.1 ∈ sw_tbl := sw_mem (List.mem_append_right _ (List.mem_append_left _ (List.mem_of_getElem? (i := 172) (by decide +kernel)))) rfl
theorem wf_X5_242 : Cond.fieldLink RX5 242 (TX1 5).1 (TX1 5).2.1 (TX1 5).2.2.1 ∈ sw_tbl := sw_mem (List.mem_append_right _ (List.mem_append_left _ (List.mem_of_getElem? (i := 133) (by decide +kernel)))) rfl
theorem wf_X5_249 : Cond.fieldLink RX5 249 (TX1 6).1 (TX1 6).2.1 (TX1 6).2.2.1 ∈ sw_tbl := sw_mem (List.mem_append_right _ (List.mem_append_left _ (List.mem_of_getElem? (i := 135) (by decide +kernel)))) rfl
theorem wf_X5_252 : Cond.fieldLink RX5 252 (TX1 4).1 (TX1 4).2.1 (TX1 4).2.2.1 ∈ sw_tbl := sw_mem (List.mem_append_right _ (List.mem_append_left _ (List.mem_of_getElem? (i := 131) (by decide +kernel)))) rfl
theorem wf_X5_253 : Cond.fieldLink RX5 253 (TX1 8).1 (TX1 8).2.1 (TX1 8).2.2.1 ∈ sw_tbl := sw_mem (List.mem_append_right _ (List.mem_append_left _ (List.mem_of_getElem? (i := 139) (by decide +kernel)))) rfl
theorem wf_X5_256 : Cond.fieldLink RX5 256 (TX1 7).1 (TX1 7).2.1 (TX1 7).2.2.1 ∈ sw_tbl := sw_mem (List.mem_append_right _ (List.mem_append_left _ (List.mem_of_getElem? (i := 137) (by decide +kernel)))) rfl
theorem wf_X5_270 : Cond.fieldLink RX5 270 (TX0 1).1 (TX0 1).2.1 (TX0 1).2.2.1 ∈ sw_tbl := sw_mem (List.mem_append_right _ (List.mem_append_left _ (List.mem_of_getElem? (i := 192) (by decide +kernel)))) rfl
theorem wf_X5_272 : Cond.fieldLink RX5 272 (TX0 2).1 (TX0 2).2.1 (TX0 2).2.2.1 ∈ sw_tbl := sw_mem (List.mem_append_right _ (List.mem_append_left _ (List.mem_of_getElem? (i := 194) (by decide +kernel)))) rfl
theorem wf_X5_281 : Cond.fieldLink RX5 281 (TX0 4).1 (TX0 4).2.1 (TX0 4).2.2.1 ∈ sw_tbl := sw_mem (List.mem_append_right _ (List.mem_append_left _ (List.mem_of_getElem? (i := 198) (by decide +kernel)))) rfl
theorem wf_X5_284 : Cond.fieldLink RX5 284 (TX0 3).1 (TX0 3).2.1 (TX0 3).2.2.1 ∈ sw_tbl := sw_mem (List.mem_append_right _ (List.mem_append_left _ (List.mem_of_getElem? (i := 196) (by decide +kernel)))) rfl
theorem wf_X5_287 : Cond.fieldLink RX5 287 (TX0 7).1 (TX0 7).2.1 (TX0 7).2.2.1 ∈ sw_tbl := sw_mem (List.mem_append_right _ (List.mem_append_left _ (List.mem_of_getElem? (i := 204) (by decide +kernel)))) rfl
theorem wf_X5_29 : Cond.fieldLink RX5 29 (TX5 4).1 (TX5 4).2.1 (TX5 4).2.2.1 ∈ sw_tbl := sw_mem (List.mem_append_right _ (List.mem_append_left _ (List.mem_of_getElem? (i := 229) (by decide +kernel)))) rfl
theorem wf_X5_295 : Cond.fieldLink RX5 295 (TX0 6).1 (TX0 6).2.1 (TX0 6).2.2.1 ∈ sw_tbl := sw_mem (List.mem_append_right _ (List.mem_append_left _ (List.mem_of_getElem? (i := 202) (by decide +kernel)))) rfl
theorem wf_X5_298 : Cond.fieldLink RX5 298 (TX0 5).1 (TX0 5).2.1 (TX0 5).2.2.1 ∈ sw_tbl := sw_mem (List.mem_append_right _ (List.mem_append_left _ (List.mem_of_getElem? (i := 200) (by decide +kernel)))) rfl
theorem wf_X5_329 : Cond.fieldLink RX5 329 (TX4 10).1 (TX4 10).2.1 (TX4 10).2.2.1 ∈ sw_tbl := sw_mem (List.mem_append_right _ (List.mem_append_left _ (List.mem_of_getElem? (i := 59) (by decide +kernel)))) rfl
theorem wf_X5_33 : Cond.fieldLink RX5 33 (TX5 5).1 (TX5 5).2.1 (TX5 5).2.2.1 ∈ sw_tbl := sw_mem (List.mem_append_right _ (List.mem_append_left _ (List.mem_of_getElem? (i := 230) (by decide +kernel)))) rfl
theorem wf_X5_36 : Cond.fieldLink RX5 36 (TX5 6).1 (TX5 6).2.1 (TX5 6).2.2.1 ∈ sw_tbl := sw_mem (List.mem_append_right _ (List.mem_append_left _ (List.mem_of_getElem? (i := 231) (by decide +kernel)))) rfl
theorem wf_X5_40 : Cond.fieldLink RX5 40 (TX5 7).1 (TX5 7).2.1 (TX5 7).2.2.1 ∈ sw_tbl := sw_mem (List.mem_append_right _ (List.mem_append_left _ (List.mem_of_getElem? (i := 232) (by decide +kernel)))) rfl
theorem wf_X5_47 : Cond.fieldLink RX5 47 (TX5 8).1 (TX5 8).2.1 (TX5 8).2.2.1 ∈ sw_tbl := sw_mem (List.mem_append_right _ (List.mem_append_left _ (List.mem_of_getElem? (i := 233) (by decide +kernel)))) rfl
theorem wf_X5_56 : Cond.fieldLink RX5 56 (TX5 9).1 (TX5 9).2.1 (TX5 9).2.2.1 ∈ sw_tbl := sw_mem (List.mem_append_right _ (List.mem_append_left _ (List.mem_of_getElem? (i := 234) (by decide +kernel)))) rfl
theorem wf_X5_63 : Cond.fieldLink RX5 63 (TX5 10).1 (TX5 10).2.1 (TX5 10).2.2.1 ∈ sw_tbl := sw_mem (List.mem_append_right _ (List.mem_append_left _ (List.mem_of_getElem? (i := 235) (by decide +kernel)))) rfl
theorem wf_X5_70 : Cond.fieldLink RX5 70 (TX5 11).1 (TX5 11).2.1 (TX5 11).2.2.1 ∈ sw_tbl := sw_mem (List.mem_append_right _ (List.mem_append_left _ (List.mem_of_getElem? (i := 236) (by decide +kernel)))) rfl
theorem wf_X5_74 : Cond.fieldLink RX5 74 (TX5 12).1 (TX5 12).2.1 (TX5 12).2.2.1 ∈ sw_tbl := sw_mem (List.mem_append_right _ (List.mem_append_left _ (List.mem_of_getElem? (i := 237) (by decide +kernel)))) rfl
theorem wf_X5_77 : Cond.fieldLink RX5 77 (TX5 13).1 (TX5 13).2.1 (TX5 13).2.2.1 ∈ sw_tbl := sw_mem (List.mem_append_right _ (List.mem_append_left _ (List.mem_of_getElem? (i := 238) (by decide +kernel)))) rfl
theorem wf_X5_81 : Cond.fieldLink RX5 81 (TX5 14).1 (TX5 14).2.1 (TX5 14).2.2.1 ∈ sw_tbl := sw_mem (List.mem_append_right _ (List.mem_append_left _ (List.mem_of_getElem? (i := 239) (by decide +kernel)))) rfl
theorem wf_X5_84 : Cond.fieldLink RX5 84 (TX5 15).1 (TX5 15).2.1 (TX5 15).2.2.1 ∈ sw_tbl := sw_mem (List.mem_append_right _ (List.mem_append_right _ (List.mem_append_left _ (List.mem_of_getElem? (i := 0) (by decide +kernel))))) rfl
theorem wf_X5_88 : Cond.fieldLink RX5 88 (TX5 16).1 (TX5 16).2.1 (TX5 16).2.2.1 ∈ sw_tbl := sw_mem (List.mem_append_right _ (List.mem_append_right _ (List.mem_append_left _ (List.mem_of_getElem? (i := 1) (by decide +kernel))))) rfl
theorem wf_X6_101 : Cond.fieldLink RX6 101 (TX6 16).1 (TX6 16).2.1 (TX6 16).2.2.1 ∈ sw_tbl := sw_mem (List.mem_append_right _ (List.mem_append_right _ (List.mem_append_right _ (List.mem_append_right _ (List.mem_append_left _ (List.mem_of_getElem? (i := 40) (by decide +kernel))))))) rfl
theorem wf_X6_114 : Cond.fieldLink RX6 114 (TX6 17).1 (TX6 17).2.1 (TX6 17).2.2.1 ∈ sw_tbl := sw_mem (List.mem_append_right _ (List.mem_append_right _ (List.mem_append_right _ (List.mem_append_right _ (List.mem_append_left _ (List.mem_of_getElem? (i := 41) (by decide +kernel))))))) rfl
theorem wf_X6_117 : Cond.fieldLink RX6 117 (TX6 18).1 (TX6 18).2.1 (TX6 18).2.2.1 ∈ sw_tbl := sw_mem (List.mem_append_right _ (List.mem_append_right _ (List.mem_append_right _ (List.mem_append_right _ (List.mem_append_left _ (List.mem_of_getElem? (i := 42) (by decide +kernel))))))) rfl
theorem wf_X6_123 : Cond.fieldLink RX6 123 (TX6 20).1 (TX6 20).2.1 (TX6 20).2.2.1 ∈ sw_tbl := sw_mem (List.mem_append_right _ (List.mem_append_right _ (List.mem_append_right _ (List.mem_append_right _ (List.mem_append_left _ (List.mem_of_getElem? (i := 44) (by decide +kernel))))))) rfl
theorem wf_X6_13 : Cond.fieldLink RX6 13 (TX6 2).1 (TX6 2).2.1 (TX6 2).2.2.1 ∈ sw_tbl := sw_mem (List.mem_append_right _ (List.mem_append_right _ (List.mem_append_right _ (List.mem_append_right _ (List.mem_append_left _ (List.mem_of_getElem? (i := 26) (by decide +kernel))))))) rfl
theorem wf_X6_136 : Cond.fieldLink RX6 136 (TX6 1).1 (TX6 1).2.1 (TX6 1).2.2.1 ∈ sw_tbl := sw_mem (List.mem_append_right _ (List.mem_append_right _ (List.mem_append_right _ (List.mem_append_right _ (List.mem_append_left _ (List.mem_of_getElem? (i := 25) (by decide +kernel))))))) rfl
theorem wf_X6_16 : Cond.fieldLink RX6 16 (TX6 3).1 (TX6 3).2.1 (TX6 3).2.2.1 ∈ sw_tbl := sw_mem (List.mem_append_right _ (List.mem_append_right _ (List.mem_append_right _ (List.mem_append_right _ (List.mem_append_left _ (List.mem_of_getElem? (i := 27) (by decide +kernel))))))) rfl
theorem wf_X6_184 : Cond.fieldLink RX6 184 (TX6 21).1 (TX6 21).2.1 (TX6 21).2.2.1 ∈ sw_tbl := sw_mem (List.mem_append_right _ (List.mem_append_right _ (List.mem_append_right _ (List.mem_append_right _ (List.mem_append_left _ (List.mem_of_getElem? (i := 45) (by decide +kernel))))))) rfl
theorem wf_X6_19 : Cond.fieldLink RX6 19 (TX6 4).1 (TX6 4).2.1 (TX6 4).2.2.1 ∈ sw_tbl := sw_mem (List.mem_append_right _ (List.mem_append_right _ (List.mem_append_right _ (List.mem_append_right _ (List.mem_append_left _ (List.mem_of_getElem? (i := 28) (by decide +kernel))))))) rfl
theorem wf_X6_216 : Cond.fieldLink RX6 216 (TX6 23).1 (TX6 23).2.1 (TX6 23).2.2.1 ∈ sw_tbl := sw_mem (List.mem_append_right _ (List.mem_append_right _ (List.mem_append_right _ (List.mem_append_right _ (List.mem_append_left _ (List.mem_of_getElem? (i := 47) (by decide +kernel))))))) rfl
theorem wf_X6_219 : Cond.fieldLink RX6 219 (TX6 24).1 (TX6 24).2.1 (TX6 24).2.2.1 ∈ sw_tbl := sw_mem (List.mem_append_right _ (List.mem_append_right _ (List.mem_append_right _ (List.mem_append_right _ (List.mem_append_left _ (List.mem_of_getElem? (i := 48) (by decide +kernel))))))) rfl
theorem wf_X6_22 : Cond.fieldLink RX6 22 (TX6 5).1 (TX6 5).2.1 (TX6 5).2.2.1 ∈ sw_tbl := sw_mem (List.mem_append_right _ (List.mem_append_right _ (List.mem_append_right _ (List.mem_append_right _ (List.mem_append_left _ (List.mem_of_getElem? (i := 29) (by decide +kernel))))))) rfl
theorem wf_X6_222 : Cond.fieldLink RX6 222 (TX6 25).1 (TX6 25).2.1 (TX6 25).2.2.1 ∈ sw_tbl := sw_mem (List.mem_append_right _ (List.mem_append_right _ (List.mem_append_right _ (List.mem_append_right _ (List.mem_append_left _ (List.mem_of_getElem? (i := 49) (by decide +kernel))))))) rfl
theorem wf_X6_229 : Cond.fieldLink RX6 229 (TX6 10).1 (TX6 10).2.1 (TX6 10).2.2.1 ∈ sw_tbl := sw_mem (List.mem_append_right _ (List.mem_append_right _ (List.mem_append_right _ (List.mem_append_right _ (List.mem_append_left _ (List.mem_of_getElem? (i := 34) (by decide +kernel))))))) rfl
theorem wf_X6_235 : Cond.fieldLink RX6 235 (TX6 26).1 (TX6 26).2.1 (TX6 26).2.2.1 ∈ sw_tbl := sw_mem (List.mem_append_right _ (List.mem_append_right _ (List.mem_append_right _ (List.mem_append_right _ (List.mem_append_left _ (List.mem_of_getElem? (i := 50) (by decide +kernel))))))) rfl
theorem wf_X6_25 : Cond.fieldLink RX6 25 (TX6 6).1 (TX6 6).2.1 (TX6 6).2.2.1 ∈ sw_tbl := sw_mem (List.mem_append_right _ (List.mem_append_right _ (List.mem_append_right _ (List.mem_append_right _ (List.mem_append_left _ (List.mem_of_getElem? (i := 30) (by decide +kernel))))))) rfl
theorem wf_X6_28 : Cond.fieldLink RX6 28 (TX6 7).1 (TX6 7).2.1 (TX6 7).2.2.1 ∈ sw_tbl := sw_mem (List.mem_append_right _ (List.mem_append_right _ (List.mem_append_right _ (List.mem_append_right _ (List.mem_append_left _ (List.mem_of_getElem? (i := 31) (by decide +kernel))))))) rfl
theorem wf_X6_31 : Cond.fieldLink RX6 31 (TX6 8).1 (TX6 8).2.1 (TX6 8).2.2.1 ∈ sw_tbl := sw_mem (List.mem_append_right _ (List.mem_append_right _ (List.mem_append_right _ (List.mem_append_right _ (List.mem_append_left _ (List.mem_of_getElem? (i := 32) (by decide +kernel))))))) rfl
theorem wf_X6_34 : Cond.fieldLink RX6 34 (TX6 11).1 (TX6 11).2.1 (TX6 11).2.2.1 ∈ sw_tbl := sw_mem (List.mem_append_right _ (List.mem_append_right _ (List.mem_append_right _ (List.mem_append_right _ (List.mem_append_left _ (List.mem_of_getElem? (i := 35) (by decide +kernel))))))) rfl
theorem wf_X6_38 : Cond.fieldLink RX6 38 (TX6 13).1 (TX6 13).2.1 (TX6 13).2.2.1 ∈ sw_tbl := sw_mem (List.mem_append_right _ (List.mem_append_right _ (List.mem_append_right _ (List.mem_append_right _ (List.mem_append_left _ (List.mem_of_getElem? (i := 37) (by decide +kernel))))))) rfl
theorem wf_X6_41 : Cond.fieldLink RX6 41 (TX6 19).1 (TX6 19).2.1 (TX6 19).2.2.1 ∈ sw_tbl := sw_mem (List.mem_append_right _ (List.mem_append_right _ (List.mem_append_right _ (List.mem_append_right _ (List.mem_append_left _ (List.mem_of_getElem? (i := 43) (by decide +kernel))))))) rfl
theorem wf_X6_44 : Cond.fieldLink RX6 44 (TX6 22).1 (TX6 22).2.1 (TX6 22).2.2.1 ∈ sw_tbl := sw_mem (List.mem_append_right _ (List.mem_append_right _ (List.mem_append_right _ (List.mem_append_right _ (List.mem_append_left _ (List.mem_of_getElem? (i := 46) (by decide +kernel))))))) rfl
theorem wf_X6_47 : Cond.fieldLink RX6 47 (TX6 27).1 (TX6 27).2.1 (TX6 27).2.2.1 ∈ sw_tbl := sw_mem (List.mem_append_right _ (List.mem_append_right _ (List.mem_append_right _ (List.mem_append_right _ (List.mem_append_left _ (List.mem_of_getElem? (i := 51) (by decide +kernel))))))) rfl
theorem wf_X6_51 : Cond.fieldLink RX6 51 (TX6 28).1 (TX6 28).2.1 (TX6 28).2.2.1 ∈ sw_tbl := sw_mem (List.mem_append_right _ (List.mem_append_right _ (List.mem_append_right _ (List.mem_append_right _ (List.mem_append_left _ (List.mem_of_getElem? (i := 52) (by decide +kernel))))))) rfl
theorem wf_X6_54 : Cond.fieldLink RX6 54 (TX6 12).1 (TX6 12).2.1 (TX6 12).2.2.1 ∈ sw_tbl := sw_mem (List.mem_append_right _ (List.mem_append_right _ (List.mem_append_right _ (List.mem_append_right _ (List.mem_append_left _ (List.mem_of_getElem? (i := 36) (by decide +kernel))))))) rfl
theorem wf_X6_58 : Cond.fieldLink RX6 58 (TX6 9).1 (TX6 9).2.1 (TX6 9).2.2.1 ∈ sw_tbl := sw_mem (List.mem_append_right _ (List.mem_append_right _ (List.mem_append_right _ (List.mem_append_right _ (List.mem_append_left _ (List.mem_of_getElem? (i := 33) (by decide +kernel))))))) rfl
theorem wf_X6_7 : Cond.fieldLink RX6 7 (TX6 0).1 (TX6 0).2.1 (TX6 0).2.2.1 ∈ sw_tbl := sw_mem (List.mem_append_right _ (List.mem_append_right _ (List.mem_append_right _ (List.mem_append_right _ (List.mem_append_left _ (List.mem_of_getElem? (i := 24) (by decide +kernel))))))) rfl
theorem wf_X6_95 : Cond.fieldLink RX6 95 (TX6 14).1 (TX6 14).2.1 (TX6 14).2.2.1 ∈ sw_tbl := sw_mem (List.mem_append_right _ (List.mem_append_right _ (List.mem_append_right _ (List.mem_append_right _ (List.mem_append_left _ (List.mem_of_getElem? (i := 38) (by decide +kernel))))))) rfl
theorem wf_X6_98 : Cond.fieldLink RX6 98 (TX6 15).1 (TX6 15).2.1 (TX6 15).2.2.1 ∈ sw_tbl := sw_mem (List.mem_append_right _ (List.mem_append_right _ (List.mem_append_right _ (List.mem_append_right _ (List.mem_append_left _ (List.mem_of_getElem? (i := 39) (by decide +kernel))))))) rfl
theorem wm_X0_38 : Cond.methodLink RX0 38 yX4_notIn ∈ sw_tbl := sw_mem (List.mem_append_right _ (List.mem_append_right _ (List.mem_append_right _ (List.mem_append_left _ (List.mem_of_getElem? (i := 133) (by decide +kernel)))))) rfl
theorem wm_X0_44 : Cond.methodLink RX0 44 yJ7_fill_53178 ∈ sw_tbl := sw_mem (List.mem_append_right _ (List.mem_append_right _ (List.mem_append_right _ (List.mem_append_left _ (List.mem_of_getElem? (i := 134) (by decide +kernel)))))) rfl
theorem wm_X0_50 : Cond.methodLink RX0 50 yX4_sets ∈ sw_tbl := sw_mem (List.mem_append_right _ (List.mem_append_right _ (List.mem_append_right _ (List.mem_append_left _ (List.mem_of_getElem? (i := 135) (by decide +kernel)))))) rfl
theorem wm_X0_55 : Cond.methodLink RX0 55 yX4_woundBySet ∈ sw_tbl := sw_mem (List.mem_append_right _ (List.mem_append_right _ (List.mem_append_right _ (List.mem_append_left _ (List.mem_of_getElem? (i := 136) (by decide +kernel)))))) rfl
theorem wm_X0_59 : Cond.methodLink RX0 59 yX4_strikesNext ∈ sw_tbl := sw_mem (List.mem_append_right _ (List.mem_append_right _ (List.mem_append_right _ (List.mem_append_left _ (List.mem_of_getElem? (i := 137) (by decide +kernel)))))) rfl
theorem wm_X0_62 : Cond.methodLink RX0 62 yX0_tally ∈ sw_tbl := sw_mem (List.mem_append_right _ (List.mem_append_right _ (List.mem_append_right _ (List.mem_append_left _ (List.mem_of_getElem? (i := 138) (by decide +kernel)))))) rfl
theorem wm_X0_66 : Cond.methodLink RX0 66 yJ6_bitCount_0f7a4 ∈ sw_tbl := sw_mem (List.mem_append_right _ (List.mem_append_right _ (List.mem_append_right _ (List.mem_append_left _ (List.mem_of_getElem? (i := 142) (by decide +kernel)))))) rfl
theorem wm_X0_71 : Cond.methodLink RX0 71 Lib.Math.min.name ∈ sw_tbl := sw_mem (List.mem_append_right _ (List.mem_append_right _ (List.mem_append_right _ (List.mem_append_left _ (List.mem_of_getElem? (i := 143) (by decide +kernel)))))) rfl
theorem wm_X0_77 : Cond.methodLink RX0 77 Lib.Math.max.name ∈ sw_tbl := sw_mem (List.mem_append_right _ (List.mem_append_right _ (List.mem_append_right _ (List.mem_append_left _ (List.mem_of_getElem? (i := 144) (by decide +kernel)))))) rfl
theorem wm_X1_49 : Cond.methodLink RX1 49 yX1_letIn ∈ sw_tbl := sw_mem (List.mem_append_right _ (List.mem_append_right _ (List.mem_append_right _ (List.mem_append_left _ (List.mem_of_getElem? (i := 89) (by decide +kernel)))))) rfl
theorem wm_X1_53 : Cond.methodLink RX1 53 yX1_weigh ∈ sw_tbl := sw_mem (List.mem_append_right _ (List.mem_append_right _ (List.mem_append_right _ (List.mem_append_left _ (List.mem_of_getElem? (i := 92) (by decide +kernel)))))) rfl
theorem wm_X1_57 : Cond.methodLink RX1 57 yX4_woundNext ∈ sw_tbl := sw_mem (List.mem_append_right _ (List.mem_append_right _ (List.mem_append_right _ (List.mem_append_left _ (List.mem_of_getElem? (i := 99) (by decide +kernel)))))) rfl
theorem wm_X1_64 : Cond.methodLink RX1 64 yX4_woundBy ∈ sw_tbl := sw_mem (List.mem_append_right _ (List.mem_append_right _ (List.mem_append_right _ (List.mem_append_left _ (List.mem_of_getElem? (i := 100) (by decide +kernel)))))) rfl
theorem wm_X1_71 : Cond.methodLink RX1 71 yJ6_bitCount_0f7a4 ∈ sw_tbl := sw_mem (List.mem_append_right _ (List.mem_append_right _ (List.mem_append_right _ (List.mem_append_left _ (List.mem_of_getElem? (i := 96) (by decide +kernel)))))) rfl
theorem wm_X1_76 : Cond.methodLink RX1 76 yX4_clockAfter ∈ sw_tbl := sw_mem (List.mem_append_right _ (List.mem_append_right _ (List.mem_append_right _ (List.mem_append_left _ (List.mem_of_getElem? (i := 97) (by decide +kernel)))))) rfl
theorem wm_X1_79 : Cond.methodLink RX1 79 arraycopyName ∈ sw_tbl := sw_mem (List.mem_append_right _ (List.mem_append_right _ (List.mem_append_right _ (List.mem_append_left _ (List.mem_of_getElem? (i := 98) (by decide +kernel)))))) rfl
theorem wm_X2_29 : Cond.methodLink RX2 29 yX4_notIn ∈ sw_tbl := sw_mem (List.mem_append_right _ (List.mem_append_right _ (List.mem_append_right _ (List.mem_append_left _ (List.mem_of_getElem? (i := 60) (by decide +kernel)))))) rfl
theorem wm_X2_35 : Cond.methodLink RX2 35 yJ6_bitCount_0f7a4 ∈ sw_tbl := sw_mem (List.mem_append_right _ (List.mem_append_right _ (List.mem_append_right _ (List.mem_append_left _ (List.mem_of_getElem? (i := 65) (by decide +kernel)))))) rfl
theorem wm_X2_47 : Cond.methodLink RX2 47 yX2_lineUp ∈ sw_tbl := sw_mem (List.mem_append_right _ (List.mem_append_right _ (List.mem_append_right _ (List.mem_append_left _ (List.mem_of_getElem? (i := 66) (by decide +kernel)))))) rfl
theorem wm_X2_51 : Cond.methodLink RX2 51 arraycopyName ∈ sw_tbl := sw_mem (List.mem_append_right _ (List.mem_append_right _ (List.mem_append_right _ (List.mem_append_left _ (List.mem_of_getElem? (i := 69) (by decide +kernel)))))) rfl
theorem wm_X2_60 : Cond.methodLink RX2 60 yX4_woundBy ∈ sw_tbl := sw_mem (List.mem_append_right _ (List.mem_append_right _ (List.mem_append_right _ (List.mem_append_left _ (List.mem_of_getElem? (i := 70) (by decide +kernel)))))) rfl
theorem wm_X3_25 : Cond.methodLink RX3 25 yX3_skipBlanks ∈ sw_tbl := sw_mem (List.mem_append_right _ (List.mem_append_right _ (List.mem_append_left _ (List.mem_of_getElem? (i := 100) (by decide +kernel))))) rfl
theorem wm_X3_28 : Cond.methodLink RX3 28 yX3_readSpring ∈ sw_tbl := sw_mem (List.mem_append_right _ (List.mem_append_right _ (List.mem_append_left _ (List.mem_of_getElem? (i := 104) (by decide +kernel))))) rfl
theorem wm_X3_32 : Cond.methodLink RX3 32 yX3_readStranger ∈ sw_tbl := sw_mem (List.mem_append_right _ (List.mem_append_right _ (List.mem_append_left _ (List.mem_of_getElem? (i := 112) (by decide +kernel))))) rfl
theorem wm_X3_36 : Cond.methodLink RX3 36 yX3_readFigure ∈ sw_tbl := sw_mem (List.mem_append_right _ (List.mem_append_right _ (List.mem_append_left _ (List.mem_of_getElem? (i := 108) (by decide +kernel))))) rfl
theorem wm_X3_50 : Cond.methodLink RX3 50 yX3_readKind ∈ sw_tbl := sw_mem (List.mem_append_right _ (List.mem_append_right _ (List.mem_append_left _ (List.mem_of_getElem? (i := 116) (by decide +kernel))))) rfl
theorem wm_X3_63 : Cond.methodLink RX3 63 yX3_kindOf ∈ sw_tbl := sw_mem (List.mem_append_right _ (List.mem_append_right _ (List.mem_append_left _ (List.mem_of_getElem? (i := 120) (by decide +kernel))))) rfl
theorem wm_X4_100 : Cond.methodLink RX4 100 yX4_allOf ∈ sw_tbl := sw_mem (List.mem_append_right _ (List.mem_append_right _ (List.mem_append_left _ (List.mem_of_getElem? (i := 159) (by decide +kernel))))) rfl
theorem wm_X4_103 : Cond.methodLink RX4 103 yJ6_bitCount_0f7a4 ∈ sw_tbl := sw_mem (List.mem_append_right _ (List.mem_append_right _ (List.mem_append_left _ (List.mem_of_getElem? (i := 167) (by decide +kernel))))) rfl
theorem wm_X4_108 : Cond.methodLink RX4 108 Lib.Math.max.name ∈ sw_tbl := sw_mem (List.mem_append_right _ (List.mem_append_right _ (List.mem_append_left _ (List.mem_of_getElem? (i := 182) (by decide +kernel))))) rfl
theorem wm_X4_114 : Cond.methodLink RX4 114 Lib.Math.min.name ∈ sw_tbl := sw_mem (List.mem_append_right _ (List.mem_append_right _ (List.mem_append_left _ (List.mem_of_getElem? (i := 211) (by decide +kernel))))) rfl
theorem wm_X4_58 : Cond.methodLink RX4 58 arraycopyName ∈ sw_tbl := sw_mem (List.mem_append_right _ (List.mem_append_right _ (List.mem_append_left _ (List.mem_of_getElem? (i := 135) (by decide +kernel))))) rfl
theorem wm_X4_64 : Cond.methodLink RX4 64 yX4_sets ∈ sw_tbl := sw_mem (List.mem_append_right _ (List.mem_append_right _ (List.mem_append_right _ (List.mem_append_left _ (List.mem_of_getElem? (i := 64) (by decide +kernel)))))) rfl
theorem wm_X4_68 : Cond.methodLink RX4 68 yX4_isFull ∈ sw_tbl := sw_mem (List.mem_append_right _ (List.mem_append_right _ (List.mem_append_left _ (List.mem_of_getElem? (i := 202) (by decide +kernel))))) rfl
theorem wm_X4_72 : Cond.methodLink RX4 72 yX4_carryOut ∈ sw_tbl := sw_mem (List.mem_append_right _ (List.mem_append_right _ (List.mem_append_left _ (List.mem_of_getElem? (i := 203) (by decide +kernel))))) rfl
theorem wm_X4_76 : Cond.methodLink RX4 76 yX4_begin ∈ sw_tbl := sw_mem (List.mem_append_right _ (List.mem_append_right _ (List.mem_append_right _ (List.mem_append_left _ (List.mem_of_getElem? (i := 7) (by decide +kernel)))))) rfl
theorem wm_X4_79 : Cond.methodLink RX4 79 yX4_woundBy ∈ sw_tbl := sw_mem (List.mem_append_right _ (List.mem_append_right _ (List.mem_append_left _ (List.mem_of_getElem? (i := 207) (by decide +kernel))))) rfl
theorem wm_X4_83 : Cond.methodLink RX4 83 yX4_clockAfter ∈ sw_tbl := sw_mem (List.mem_append_right _ (List.mem_append_right _ (List.mem_append_left _ (List.mem_of_getElem? (i := 214) (by decide +kernel))))) rfl
theorem wm_X4_87 : Cond.methodLink RX4 87 yX4_woundNext ∈ sw_tbl := sw_mem (List.mem_append_right _ (List.mem_append_right _ (List.mem_append_left _ (List.mem_of_getElem? (i := 218) (by decide +kernel))))) rfl
theorem wm_X4_90 : Cond.methodLink RX4 90 yX4_isOf ∈ sw_tbl := sw_mem (List.mem_append_right _ (List.mem_append_right _ (List.mem_append_left _ (List.mem_of_getElem? (i := 163) (by decide +kernel))))) rfl
theorem wm_X4_94 : Cond.methodLink RX4 94 yX4_isIn ∈ sw_tbl := sw_mem (List.mem_append_right _ (List.mem_append_right _ (List.mem_append_left _ (List.mem_of_getElem? (i := 151) (by decide +kernel))))) rfl
theorem wm_X4_97 : Cond.methodLink RX4 97 yX4_turns ∈ sw_tbl := sw_mem (List.mem_append_right _ (List.mem_append_right _ (List.mem_append_left _ (List.mem_of_getElem? (i := 155) (by decide +kernel))))) rfl
theorem wm_X5_101 : Cond.methodLink RX5 101 yX5_found ∈ sw_tbl := sw_mem (List.mem_append_right _ (List.mem_append_right _ (List.mem_append_left _ (List.mem_of_getElem? (i := 44) (by decide +kernel))))) rfl
theorem wm_X5_105 : Cond.methodLink RX5 105 yX5_refusedPlace ∈ sw_tbl := sw_mem (List.mem_append_right _ (List.mem_append_right _ (List.mem_append_left _ (List.mem_of_getElem? (i := 52) (by decide +kernel))))) rfl
theorem wm_X5_109 : Cond.methodLink RX5 109 yX5_isSpan ∈ sw_tbl := sw_mem (List.mem_append_right _ (List.mem_append_right _ (List.mem_append_left _ (List.mem_of_getElem? (i := 68) (by decide +kernel))))) rfl
theorem wm_X5_113 : Cond.methodLink RX5 113 arraycopyName ∈ sw_tbl := sw_mem (List.mem_append_right _ (List.mem_append_right _ (List.mem_append_left _ (List.mem_of_getElem? (i := 71) (by decide +kernel))))) rfl
theorem wm_X5_119 : Cond.methodLink RX5 119 yX5_isText ∈ sw_tbl := sw_mem (List.mem_append_right _ (List.mem_append_right _ (List.mem_append_left _ (List.mem_of_getElem? (i := 82) (by decide +kernel))))) rfl
theorem wm_X5_122 : Cond.methodLink RX5 122 yJ7_fill_031fb ∈ sw_tbl := sw_mem (List.mem_append_right _ (List.mem_append_right _ (List.mem_append_left _ (List.mem_of_getElem? (i := 85) (by decide +kernel))))) rfl
theorem wm_X5_125 : Cond.methodLink RX5 125 yX3_readTown ∈ sw_tbl := sw_mem (List.mem_append_right _ (List.mem_append_right _ (List.mem_append_left _ (List.mem_of_getElem? (i := 96) (by decide +kernel))))) rfl
theorem wm_X5_129 : Cond.methodLink RX5 129 yX4_begin ∈ sw_tbl := sw_mem (List.mem_append_right _ (List.mem_append_right _ (List.mem_append_left _ (List.mem_of_getElem? (i := 127) (by decide +kernel))))) rfl
theorem wm_X5_132 : Cond.methodLink RX5 132 yX4_takeFrom ∈ sw_tbl := sw_mem (List.mem_append_right _ (List.mem_append_right _ (List.mem_append_left _ (List.mem_of_getElem? (i := 131) (by decide +kernel))))) rfl
theorem wm_X5_135 : Cond.methodLink RX5 135 yJ7_fill_49daa ∈ sw_tbl := sw_mem (List.mem_append_right _ (List.mem_append_right _ (List.mem_append_left _ (List.mem_of_getElem? (i := 136) (by decide +kernel))))) rfl
theorem wm_X5_141 : Cond.methodLink RX5 141 yX4_has ∈ sw_tbl := sw_mem (List.mem_append_right _ (List.mem_append_right _ (List.mem_append_left _ (List.mem_of_getElem? (i := 143) (by decide +kernel))))) rfl
theorem wm_X5_144 : Cond.methodLink RX5 144 yX4_trait ∈ sw_tbl := sw_mem (List.mem_append_right _ (List.mem_append_right _ (List.mem_append_left _ (List.mem_of_getElem? (i := 147) (by decide +kernel))))) rfl
theorem wm_X5_147 : Cond.methodLink RX5 147 yX4_isOf ∈ sw_tbl := sw_mem (List.mem_append_right _ (List.mem_append_right _ (List.mem_append_left _ (List.mem_of_getElem? (i := 177) (by decide +kernel))))) rfl
theorem wm_X5_151 : Cond.methodLink RX5 151 yX4_markOf ∈ sw_tbl := sw_mem (List.mem_append_right _ (List.mem_append_right _ (List.mem_append_left _ (List.mem_of_getElem? (i := 178) (by decide +kernel))))) rfl
theorem wm_X5_160 : Cond.methodLink RX5 160 yX4_isIn ∈ sw_tbl := sw_mem (List.mem_append_right _ (List.mem_append_right _ (List.mem_append_left _ (List.mem_of_getElem? (i := 193) (by decide +kernel))))) rfl
theorem wm_X5_163 : Cond.methodLink RX5 163 yX4_isFull ∈ sw_tbl := sw_mem (List.mem_append_right _ (List.mem_append_right _ (List.mem_append_left _ (List.mem_of_getElem? (i := 194) (by decide +kernel))))) rfl
theorem wm_X5_166 : Cond.methodLink RX5 166 yX4_note ∈ sw_tbl := sw_mem (List.mem_append_right _ (List.mem_append_right _ (List.mem_append_left _ (List.mem_of_getElem? (i := 198) (by decide +kernel))))) rfl
theorem wm_X5_176 : Cond.methodLink RX5 176 yJ6_bitCount_0f7a4 ∈ sw_tbl := sw_mem (List.mem_append_right _ (List.mem_append_right _ (List.mem_append_left _ (List.mem_of_getElem? (i := 226) (by decide +kernel))))) rfl
theorem wm_X5_181 : Cond.methodLink RX5 181 yX4_strikesNext ∈ sw_tbl := sw_mem (List.mem_append_right _ (List.mem_append_right _ (List.mem_append_left _ (List.mem_of_getElem? (i := 231) (by decide +kernel))))) rfl
theorem wm_X5_190 : Cond.methodLink RX5 190 yX4_redo ∈ sw_tbl := sw_mem (List.mem_append_right _ (List.mem_append_right _ (List.mem_append_right _ (List.mem_append_left _ (List.mem_of_getElem? (i := 3) (by decide +kernel)))))) rfl
theorem wm_X5_194 : Cond.methodLink RX5 194 yX5_isKeep ∈ sw_tbl := sw_mem (List.mem_append_right _ (List.mem_append_right _ (List.mem_append_right _ (List.mem_append_left _ (List.mem_of_getElem? (i := 12) (by decide +kernel)))))) rfl
theorem wm_X5_197 : Cond.methodLink RX5 197 yX4_hoursLeft ∈ sw_tbl := sw_mem (List.mem_append_right _ (List.mem_append_right _ (List.mem_append_right _ (List.mem_append_left _ (List.mem_of_getElem? (i := 23) (by decide +kernel)))))) rfl
theorem wm_X5_200 : Cond.methodLink RX5 200 yX5_refusedGuests ∈ sw_tbl := sw_mem (List.mem_append_right _ (List.mem_append_right _ (List.mem_append_right _ (List.mem_append_left _ (List.mem_of_getElem? (i := 31) (by decide +kernel)))))) rfl
theorem wm_X5_204 : Cond.methodLink RX5 204 yX4_woundBy ∈ sw_tbl := sw_mem (List.mem_append_right _ (List.mem_append_right _ (List.mem_append_right _ (List.mem_append_left _ (List.mem_of_getElem? (i := 39) (by decide +kernel)))))) rfl
theorem wm_X5_211 : Cond.methodLink RX5 211 yX4_sets ∈ sw_tbl := sw_mem (List.mem_append_right _ (List.mem_append_right _ (List.mem_append_right _ (List.mem_append_left _ (List.mem_of_getElem? (i := 44) (by decide +kernel)))))) rfl
theorem wm_X5_215 : Cond.methodLink RX5 215 yX4_woundBySet ∈ sw_tbl := sw_mem (List.mem_append_right _ (List.mem_append_right _ (List.mem_append_right _ (List.mem_append_left _ (List.mem_of_getElem? (i := 48) (by decide +kernel)))))) rfl
theorem wm_X5_218 : Cond.methodLink RX5 218 yX2_search ∈ sw_tbl := sw_mem (List.mem_append_right _ (List.mem_append_right _ (List.mem_append_right _ (List.mem_append_left _ (List.mem_of_getElem? (i := 56) (by decide +kernel)))))) rfl
theorem wm_X5_227 : Cond.methodLink RX5 227 yX5_fillRow ∈ sw_tbl := sw_mem (List.mem_append_right _ (List.mem_append_right _ (List.mem_append_right _ (List.mem_append_left _ (List.mem_of_getElem? (i := 71) (by decide +kernel)))))) rfl
theorem wm_X5_234 : Cond.methodLink RX5 234 yX5_isLettingSize ∈ sw_tbl := sw_mem (List.mem_append_right _ (List.mem_append_right _ (List.mem_append_right _ (List.mem_append_left _ (List.mem_of_getElem? (i := 79) (by decide +kernel)))))) rfl
theorem wm_X5_237 : Cond.methodLink RX5 237 yX5_isDial ∈ sw_tbl := sw_mem (List.mem_append_right _ (List.mem_append_right _ (List.mem_append_right _ (List.mem_append_left _ (List.mem_of_getElem? (i := 82) (by decide +kernel)))))) rfl
theorem wm_X5_240 : Cond.methodLink RX5 240 yX1_search ∈ sw_tbl := sw_mem (List.mem_append_right _ (List.mem_append_right _ (List.mem_append_right _ (List.mem_append_left _ (List.mem_of_getElem? (i := 85) (by decide +kernel)))))) rfl
theorem wm_X5_245 : Cond.methodLink RX5 245 yX5_tell ∈ sw_tbl := sw_mem (List.mem_append_right _ (List.mem_append_right _ (List.mem_append_right _ (List.mem_append_left _ (List.mem_of_getElem? (i := 101) (by decide +kernel)))))) rfl
theorem wm_X5_259 : Cond.methodLink RX5 259 yX4_woundNext ∈ sw_tbl := sw_mem (List.mem_append_right _ (List.mem_append_right _ (List.mem_append_right _ (List.mem_append_left _ (List.mem_of_getElem? (i := 120) (by decide +kernel)))))) rfl
theorem wm_X5_262 : Cond.methodLink RX5 262 yX4_clockAfter ∈ sw_tbl := sw_mem (List.mem_append_right _ (List.mem_append_right _ (List.mem_append_right _ (List.mem_append_left _ (List.mem_of_getElem? (i := 121) (by decide +kernel)))))) rfl
theorem wm_X5_265 : Cond.methodLink RX5 265 yX5_isStrike ∈ sw_tbl := sw_mem (List.mem_append_right _ (List.mem_append_right _ (List.mem_append_right _ (List.mem_append_left _ (List.mem_of_getElem? (i := 126) (by decide +kernel)))))) rfl
theorem wm_X5_268 : Cond.methodLink RX5 268 yX0_search ∈ sw_tbl := sw_mem (List.mem_append_right _ (List.mem_append_right _ (List.mem_append_right _ (List.mem_append_left _ (List.mem_of_getElem? (i := 129) (by decide +kernel)))))) rfl
theorem wm_X5_275 : Cond.methodLink RX5 275 yX5_refusedBeard ∈ sw_tbl := sw_mem (List.mem_append_right _ (List.mem_append_right _ (List.mem_append_right _ (List.mem_append_left _ (List.mem_of_getElem? (i := 149) (by decide +kernel)))))) rfl
theorem wm_X5_278 : Cond.methodLink RX5 278 yX4_notIn ∈ sw_tbl := sw_mem (List.mem_append_right _ (List.mem_append_right _ (List.mem_append_right _ (List.mem_append_left _ (List.mem_of_getElem? (i := 153) (by decide +kernel)))))) rfl
theorem wm_X5_290 : Cond.methodLink RX5 290 Lib.Math.max.name ∈ sw_tbl := sw_mem (List.mem_append_right _ (List.mem_append_right _ (List.mem_append_right _ (List.mem_append_left _ (List.mem_of_getElem? (i := 158) (by decide +kernel)))))) rfl
theorem wm_X5_299 : Cond.methodLink RX5 299 yX5_duelFrom ∈ sw_tbl := sw_mem (List.mem_append_right _ (List.mem_append_right _ (List.mem_append_right _ (List.mem_append_left _ (List.mem_of_getElem? (i := 167) (by decide +kernel)))))) rfl
theorem wm_X5_303 : Cond.methodLink RX5 303 Lib.Math.min.name ∈ sw_tbl := sw_mem (List.mem_append_right _ (List.mem_append_right _ (List.mem_append_right _ (List.mem_append_left _ (List.mem_of_getElem? (i := 170) (by decide +kernel)))))) rfl
theorem wm_X5_306 : Cond.methodLink RX5 306 yX5_firstFalsePair ∈ sw_tbl := sw_mem (List.mem_append_right _ (List.mem_append_right _ (List.mem_append_right _ (List.mem_append_left _ (List.mem_of_getElem? (i := 183) (by decide +kernel)))))) rfl
theorem wm_X5_310 : Cond.methodLink RX5 310 yX5_isTwelfth ∈ sw_tbl := sw_mem (List.mem_append_right _ (List.mem_append_right _ (List.mem_append_right _ (List.mem_append_left _ (List.mem_of_getElem? (i := 191) (by decide +kernel)))))) rfl
theorem wm_X5_313 : Cond.methodLink RX5 313 yX4_weight ∈ sw_tbl := sw_mem (List.mem_append_right _ (List.mem_append_right _ (List.mem_append_right _ (List.mem_append_left _ (List.mem_of_getElem? (i := 194) (by decide +kernel)))))) rfl
theorem wm_X5_317 : Cond.methodLink RX5 317 yX4_weights ∈ sw_tbl := sw_mem (List.mem_append_right _ (List.mem_append_right _ (List.mem_append_right _ (List.mem_append_left _ (List.mem_of_getElem? (i := 198) (by decide +kernel)))))) rfl
theorem wm_X5_325 : Cond.methodLink RX5 325 yX5_noteLot ∈ sw_tbl := sw_mem (List.mem_append_right _ (List.mem_append_right _ (List.mem_append_right _ (List.mem_append_left _ (List.mem_of_getElem? (i := 213) (by decide +kernel)))))) rfl
theorem wm_X5_332 : Cond.methodLink RX5 332 yX4_allOf ∈ sw_tbl := sw_mem (List.mem_append_right _ (List.mem_append_right _ (List.mem_append_right _ (List.mem_append_left _ (List.mem_of_getElem? (i := 235) (by decide +kernel)))))) rfl
theorem wm_X5_335 : Cond.methodLink RX5 335 yX5_thoseThere ∈ sw_tbl := sw_mem (List.mem_append_right _ (List.mem_append_right _ (List.mem_append_right _ (List.mem_append_left _ (List.mem_of_getElem? (i := 236) (by decide +kernel)))))) rfl
theorem wm_X5_339 : Cond.methodLink RX5 339 yX5_thoseKept ∈ sw_tbl := sw_mem (List.mem_append_right _ (List.mem_append_right _ (List.mem_append_right _ (List.mem_append_left _ (List.mem_of_getElem? (i := 239) (by decide +kernel)))))) rfl
theorem wm_X5_346 : Cond.methodLink RX5 346 yX5_count ∈ sw_tbl := sw_mem (List.mem_append_right _ (List.mem_append_right _ (List.mem_append_right _ (List.mem_append_right _ (List.mem_append_left _ (List.mem_of_getElem? (i := 17) (by decide +kernel))))))) rfl
theorem wm_X5_349 : Cond.methodLink RX5 349 yX5_canAllCome ∈ sw_tbl := sw_mem (List.mem_append_right _ (List.mem_append_right _ (List.mem_append_right _ (List.mem_append_left _ (List.mem_of_getElem? (i := 35) (by decide +kernel)))))) rfl
theorem wm_X5_353 : Cond.methodLink RX5 353 yX5_commonDivisor ∈ sw_tbl := sw_mem (List.mem_append_right _ (List.mem_append_right _ (List.mem_append_right _ (List.mem_append_left _ (List.mem_of_getElem? (i := 105) (by decide +kernel)))))) rfl
theorem wm_X5_91 : Cond.methodLink RX5 91 yJ7_fill_53178 ∈ sw_tbl := sw_mem (List.mem_append_right _ (List.mem_append_left _ (List.mem_of_getElem? (i := 222) (by decide +kernel)))) rfl
theorem wm_X5_97 : Cond.methodLink RX5 97 yX5_isRow ∈ sw_tbl := sw_mem (List.mem_append_right _ (List.mem_append_right _ (List.mem_append_left _ (List.mem_of_getElem? (i := 41) (by decide +kernel))))) rfl
theorem wm_X6_104 : Cond.methodLink RX6 104 yX6_here ∈ sw_tbl := sw_mem (List.mem_append_right _ (List.mem_append_right _ (List.mem_append_right _ (List.mem_append_right _ (List.mem_append_left _ (List.mem_of_getElem? (i := 191) (by decide +kernel))))))) rfl
theorem wm_X6_108 : Cond.methodLink RX6 108 yX6_skip ∈ sw_tbl := sw_mem (List.mem_append_right _ (List.mem_append_right _ (List.mem_append_right _ (List.mem_append_right _ (List.mem_append_left _ (List.mem_of_getElem? (i := 187) (by decide +kernel))))))) rfl
theorem wm_X6_111 : Cond.methodLink RX6 111 yX6_figure ∈ sw_tbl := sw_mem (List.mem_append_right _ (List.mem_append_right _ (List.mem_append_right _ (List.mem_append_right _ (List.mem_append_left _ (List.mem_of_getElem? (i := 195) (by decide +kernel))))))) rfl
theorem wm_X6_120 : Cond.methodLink RX6 120 yX6_kindOfLetter ∈ sw_tbl := sw_mem (List.mem_append_right _ (List.mem_append_right _ (List.mem_append_right _ (List.mem_append_right _ (List.mem_append_left _ (List.mem_of_getElem? (i := 203) (by decide +kernel))))))) rfl
theorem wm_X6_126 : Cond.methodLink RX6 126 yX6_readsSpring ∈ sw_tbl := sw_mem (List.mem_append_right _ (List.mem_append_right _ (List.mem_append_right _ (List.mem_append_right _ (List.mem_append_left _ (List.mem_of_getElem? (i := 183) (by decide +kernel))))))) rfl
theorem wm_X6_130 : Cond.methodLink RX6 130 yX6_readsStranger ∈ sw_tbl := sw_mem (List.mem_append_right _ (List.mem_append_right _ (List.mem_append_right _ (List.mem_append_right _ (List.mem_append_left _ (List.mem_of_getElem? (i := 199) (by decide +kernel))))))) rfl
theorem wm_X6_133 : Cond.methodLink RX6 133 yX6_faultOf ∈ sw_tbl := sw_mem (List.mem_append_right _ (List.mem_append_right _ (List.mem_append_right _ (List.mem_append_right _ (List.mem_append_left _ (List.mem_of_getElem? (i := 179) (by decide +kernel))))))) rfl
theorem wm_X6_139 : Cond.methodLink RX6 139 yX6_has ∈ sw_tbl := sw_mem (List.mem_append_right _ (List.mem_append_right _ (List.mem_append_right _ (List.mem_append_right _ (List.mem_append_left _ (List.mem_of_getElem? (i := 230) (by decide +kernel))))))) rfl
theorem wm_X6_143 : Cond.methodLink RX6 143 yX6_pilgrims ∈ sw_tbl := sw_mem (List.mem_append_right _ (List.mem_append_right _ (List.mem_append_right _ (List.mem_append_right _ (List.mem_append_left _ (List.mem_of_getElem? (i := 226) (by decide +kernel))))))) rfl
theorem wm_X6_146 : Cond.methodLink RX6 146 yX6_bits ∈ sw_tbl := sw_mem (List.mem_append_right _ (List.mem_append_right _ (List.mem_append_right _ (List.mem_append_right _ (List.mem_append_left _ (List.mem_of_getElem? (i := 233) (by decide +kernel))))))) rfl
theorem wm_X6_149 : Cond.methodLink RX6 149 yX6_turnsOf ∈ sw_tbl := sw_mem (List.mem_append_right _ (List.mem_append_right _ (List.mem_append_right _ (List.mem_append_right _ (List.mem_append_left _ (List.mem_of_getElem? (i := 222) (by decide +kernel))))))) rfl
theorem wm_X6_152 : Cond.methodLink RX6 152 yX6_comesIn ∈ sw_tbl := sw_mem (List.mem_append_right _ (List.mem_append_right _ (List.mem_append_right _ (List.mem_append_right _ (List.mem_append_right _ (List.mem_append_left _ (List.mem_of_getElem? (i := 24) (by decide +kernel)))))))) rfl
theorem wm_X6_155 : Cond.methodLink RX6 155 yX6_isStranger ∈ sw_tbl := sw_mem (List.mem_append_right _ (List.mem_append_right _ (List.mem_append_right _ (List.mem_append_right _ (List.mem_append_left _ (List.mem_of_getElem? (i := 214) (by decide +kernel))))))) rfl
theorem wm_X6_158 : Cond.methodLink RX6 158 yX6_toldOf ∈ sw_tbl := sw_mem (List.mem_append_right _ (List.mem_append_right _ (List.mem_append_right _ (List.mem_append_right _ (List.mem_append_left _ (List.mem_of_getElem? (i := 218) (by decide +kernel))))))) rfl
theorem wm_X6_161 : Cond.methodLink RX6 161 yX6_isOf ∈ sw_tbl := sw_mem (List.mem_append_right _ (List.mem_append_right _ (List.mem_append_right _ (List.mem_append_right _ (List.mem_append_right _ (List.mem_append_left _ (List.mem_of_getElem? (i := 0) (by decide +kernel)))))))) rfl
theorem wm_X6_164 : Cond.methodLink RX6 164 yX6_keepPast ∈ sw_tbl := sw_mem (List.mem_append_right _ (List.mem_append_right _ (List.mem_append_right _ (List.mem_append_right _ (List.mem_append_right _ (List.mem_append_left _ (List.mem_of_getElem? (i := 20) (by decide +kernel)))))))) rfl
theorem wm_X6_167 : Cond.methodLink RX6 167 yX6_isIn ∈ sw_tbl := sw_mem (List.mem_append_right _ (List.mem_append_right _ (List.mem_append_right _ (List.mem_append_right _ (List.mem_append_right _ (List.mem_append_left _ (List.mem_of_getElem? (i := 12) (by decide +kernel)))))))) rfl
theorem wm_X6_170 : Cond.methodLink RX6 170 yX6_doLet ∈ sw_tbl := sw_mem (List.mem_append_right _ (List.mem_append_right _ (List.mem_append_right _ (List.mem_append_right _ (List.mem_append_right _ (List.mem_append_left _ (List.mem_of_getElem? (i := 16) (by decide +kernel)))))))) rfl
theorem wm_X6_173 : Cond.methodLink RX6 173 yX6_doLeave ∈ sw_tbl := sw_mem (List.mem_append_right _ (List.mem_append_right _ (List.mem_append_right _ (List.mem_append_right _ (List.mem_append_right _ (List.mem_append_left _ (List.mem_of_getElem? (i := 32) (by decide +kernel)))))))) rfl
theorem wm_X6_176 : Cond.methodLink RX6 176 yX6_pass ∈ sw_tbl := sw_mem (List.mem_append_right _ (List.mem_append_right _ (List.mem_append_right _ (List.mem_append_right _ (List.mem_append_right _ (List.mem_append_left _ (List.mem_of_getElem? (i := 40) (by decide +kernel)))))))) rfl
theorem wm_X6_181 : Cond.methodLink RX6 181 yX6_copyTown ∈ sw_tbl := sw_mem (List.mem_append_right _ (List.mem_append_right _ (List.mem_append_right _ (List.mem_append_right _ (List.mem_append_right _ (List.mem_append_left _ (List.mem_of_getElem? (i := 57) (by decide +kernel)))))))) rfl
theorem wm_X6_187 : Cond.methodLink RX6 187 yX6_layTried ∈ sw_tbl := sw_mem (List.mem_append_right _ (List.mem_append_right _ (List.mem_append_right _ (List.mem_append_right _ (List.mem_append_right _ (List.mem_append_left _ (List.mem_of_getElem? (i := 69) (by decide +kernel)))))))) rfl
theorem wm_X6_190 : Cond.methodLink RX6 190 yX6_lastsTried ∈ sw_tbl := sw_mem (List.mem_append_right _ (List.mem_append_right _ (List.mem_append_right _ (List.mem_append_right _ (List.mem_append_right _ (List.mem_append_left _ (List.mem_of_getElem? (i := 73) (by decide +kernel)))))))) rfl
theorem wm_X6_193 : Cond.methodLink RX6 193 yX6_noRow ∈ sw_tbl := sw_mem (List.mem_append_right _ (List.mem_append_right _ (List.mem_append_right _ (List.mem_append_right _ (List.mem_append_right _ (List.mem_append_left _ (List.mem_of_getElem? (i := 81) (by decide +kernel)))))))) rfl
theorem wm_X6_197 : Cond.methodLink RX6 197 yX6_comeTried ∈ sw_tbl := sw_mem (List.mem_append_right _ (List.mem_append_right _ (List.mem_append_right _ (List.mem_append_right _ (List.mem_append_right _ (List.mem_append_left _ (List.mem_of_getElem? (i := 101) (by decide +kernel)))))))) rfl
theorem wm_X6_201 : Cond.methodLink RX6 201 yX6_out ∈ sw_tbl := sw_mem (List.mem_append_right _ (List.mem_append_right _ (List.mem_append_right _ (List.mem_append_right _ (List.mem_append_right _ (List.mem_append_left _ (List.mem_of_getElem? (i := 93) (by decide +kernel)))))))) rfl
theorem wm_X6_204 : Cond.methodLink RX6 204 yX6_isOut ∈ sw_tbl := sw_mem (List.mem_append_right _ (List.mem_append_right _ (List.mem_append_right _ (List.mem_append_right _ (List.mem_append_right _ (List.mem_append_left _ (List.mem_of_getElem? (i := 89) (by decide +kernel)))))))) rfl
theorem wm_X6_207 : Cond.methodLink RX6 207 yX6_woundBy ∈ sw_tbl := sw_mem (List.mem_append_right _ (List.mem_append_right _ (List.mem_append_right _ (List.mem_append_right _ (List.mem_append_right _ (List.mem_append_left _ (List.mem_of_getElem? (i := 97) (by decide +kernel)))))))) rfl
theorem wm_X6_210 : Cond.methodLink RX6 210 yX6_nextOrder ∈ sw_tbl := sw_mem (List.mem_append_right _ (List.mem_append_right _ (List.mem_append_right _ (List.mem_append_right _ (List.mem_append_right _ (List.mem_append_left _ (List.mem_of_getElem? (i := 109) (by decide +kernel)))))))) rfl
theorem wm_X6_213 : Cond.methodLink RX6 213 yX6_power ∈ sw_tbl := sw_mem (List.mem_append_right _ (List.mem_append_right _ (List.mem_append_right _ (List.mem_append_right _ (List.mem_append_right _ (List.mem_append_left _ (List.mem_of_getElem? (i := 122) (by decide +kernel)))))))) rfl
theorem wm_X6_225 : Cond.methodLink RX6 225 yX6_whoOf ∈ sw_tbl := sw_mem (List.mem_append_right _ (List.mem_append_right _ (List.mem_append_right _ (List.mem_append_right _ (List.mem_append_right _ (List.mem_append_left _ (List.mem_of_getElem? (i := 130) (by decide +kernel)))))))) rfl
theorem wm_X6_232 : Cond.methodLink RX6 232 yX6_isLetting ∈ sw_tbl := sw_mem (List.mem_append_right _ (List.mem_append_right _ (List.mem_append_right _ (List.mem_append_right _ (List.mem_append_right _ (List.mem_append_left _ (List.mem_of_getElem? (i := 126) (by decide +kernel)))))))) rfl
theorem wm_X6_240 : Cond.methodLink RX6 240 yX6_leastBread ∈ sw_tbl := sw_mem (List.mem_append_right _ (List.mem_append_right _ (List.mem_append_right _ (List.mem_append_right _ (List.mem_append_right _ (List.mem_append_left _ (List.mem_of_getElem? (i := 118) (by decide +kernel)))))))) rfl
theorem wm_X6_245 : Cond.methodLink RX6 245 yX6_layFits ∈ sw_tbl := sw_mem (List.mem_append_right _ (List.mem_append_right _ (List.mem_append_right _ (List.mem_append_right _ (List.mem_append_right _ (List.mem_append_left _ (List.mem_of_getElem? (i := 151) (by decide +kernel)))))))) rfl
theorem wm_X6_248 : Cond.methodLink RX6 248 yX6_noFits ∈ sw_tbl := sw_mem (List.mem_append_right _ (List.mem_append_right _ (List.mem_append_right _ (List.mem_append_right _ (List.mem_append_right _ (List.mem_append_left _ (List.mem_of_getElem? (i := 159) (by decide +kernel)))))))) rfl
theorem wm_X6_251 : Cond.methodLink RX6 251 yX6_greater ∈ sw_tbl := sw_mem (List.mem_append_right _ (List.mem_append_right _ (List.mem_append_right _ (List.mem_append_right _ (List.mem_append_right _ (List.mem_append_left _ (List.mem_of_getElem? (i := 167) (by decide +kernel)))))))) rfl
theorem wm_X6_256 : Cond.methodLink RX6 256 yX6_worthOf ∈ sw_tbl := sw_mem (List.mem_append_right _ (List.mem_append_right _ (List.mem_append_right _ (List.mem_append_right _ (List.mem_append_right _ (List.mem_append_left _ (List.mem_of_getElem? (i := 180) (by decide +kernel)))))))) rfl
theorem wm_X6_261 : Cond.methodLink RX6 261 yX6_waysOf ∈ sw_tbl := sw_mem (List.mem_append_right _ (List.mem_append_right _ (List.mem_append_right _ (List.mem_append_right _ (List.mem_append_right _ (List.mem_append_left _ (List.mem_of_getElem? (i := 201) (by decide +kernel)))))))) rfl
theorem wm_X6_265 : Cond.methodLink RX6 265 yX6_tellParts ∈ sw_tbl := sw_mem (List.mem_append_right _ (List.mem_append_right _ (List.mem_append_right _ (List.mem_append_right _ (List.mem_append_right _ (List.mem_append_left _ (List.mem_of_getElem? (i := 205) (by decide +kernel)))))))) rfl
theorem wm_X6_279 : Cond.methodLink RX6 279 yX6_strongs ∈ sw_tbl := sw_mem (List.mem_append_right _ (List.mem_append_right _ (List.mem_append_right _ (List.mem_append_right _ (List.mem_append_right _ (List.mem_append_right _ (List.mem_of_getElem? (i := 2) (by decide +kernel)))))))) rfl
theorem wm_X6_282 : Cond.methodLink RX6 282 yX6_thereOf ∈ sw_tbl := sw_mem (List.mem_append_right _ (List.mem_append_right _ (List.mem_append_right _ (List.mem_append_right _ (List.mem_append_right _ (List.mem_append_right _ (List.mem_of_getElem? (i := 6) (by decide +kernel)))))))) rfl
theorem wm_X6_285 : Cond.methodLink RX6 285 yX6_countOf ∈ sw_tbl := sw_mem (List.mem_append_right _ (List.mem_append_right _ (List.mem_append_right _ (List.mem_append_right _ (List.mem_append_right _ (List.mem_append_left _ (List.mem_of_getElem? (i := 238) (by decide +kernel)))))))) rfl
theorem wm_X6_63 : Cond.methodLink RX6 63 yX6_in ∈ sw_tbl := sw_mem (List.mem_append_right _ (List.mem_append_right _ (List.mem_append_right _ (List.mem_append_right _ (List.mem_append_left _ (List.mem_of_getElem? (i := 120) (by decide +kernel))))))) rfl
theorem wm_X6_69 : Cond.methodLink RX6 69 yX6_isRow ∈ sw_tbl := sw_mem (List.mem_append_right _ (List.mem_append_right _ (List.mem_append_right _ (List.mem_append_right _ (List.mem_append_left _ (List.mem_of_getElem? (i := 116) (by decide +kernel))))))) rfl
theorem wm_X6_73 : Cond.methodLink RX6 73 yX6_find ∈ sw_tbl := sw_mem (List.mem_append_right _ (List.mem_append_right _ (List.mem_append_right _ (List.mem_append_right _ (List.mem_append_left _ (List.mem_of_getElem? (i := 123) (by decide +kernel))))))) rfl
theorem wm_X6_77 : Cond.methodLink RX6 77 yX6_makeRow ∈ sw_tbl := sw_mem (List.mem_append_right _ (List.mem_append_right _ (List.mem_append_right _ (List.mem_append_right _ (List.mem_append_left _ (List.mem_of_getElem? (i := 127) (by decide +kernel))))))) rfl
theorem wm_X6_81 : Cond.methodLink RX6 81 yX6_refused ∈ sw_tbl := sw_mem (List.mem_append_right _ (List.mem_append_right _ (List.mem_append_right _ (List.mem_append_right _ (List.mem_append_left _ (List.mem_of_getElem? (i := 135) (by decide +kernel))))))) rfl
theorem wm_X6_85 : Cond.methodLink RX6 85 yX6_tell ∈ sw_tbl := sw_mem (List.mem_append_right _ (List.mem_append_right _ (List.mem_append_right _ (List.mem_append_right _ (List.mem_append_left _ (List.mem_of_getElem? (i := 139) (by decide +kernel))))))) rfl
theorem wm_X6_88 : Cond.methodLink RX6 88 yX6_isSpan ∈ sw_tbl := sw_mem (List.mem_append_right _ (List.mem_append_right _ (List.mem_append_right _ (List.mem_append_right _ (List.mem_append_left _ (List.mem_of_getElem? (i := 155) (by decide +kernel))))))) rfl
theorem wm_X6_92 : Cond.methodLink RX6 92 yX6_isText ∈ sw_tbl := sw_mem (List.mem_append_right _ (List.mem_append_right _ (List.mem_append_right _ (List.mem_append_right _ (List.mem_append_left _ (List.mem_of_getElem? (i := 167) (by decide +kernel))))))) rfl
theorem wi_X5 : Cond.initialized RX5 ∈ sw_tbl := sw_mem (List.mem_append_right _ (List.mem_append_left _ (List.mem_of_getElem? (i := 1) (by decide +kernel)))) rfl
theorem wi_X0 : Cond.initialized RX0 ∈ sw_tbl := sw_mem (List.mem_append_right _ (List.mem_append_left _ (List.mem_of_getElem? (i := 6) (by decide +kernel)))) rfl
theorem wi_X1 : Cond.initialized RX1 ∈ sw_tbl := sw_mem (List.mem_append_right _ (List.mem_append_left _ (List.mem_of_getElem? (i := 4) (by decide +kernel)))) rfl
theorem wi_X2 : Cond.initialized RX2 ∈ sw_tbl := sw_mem (List.mem_append_right _ (List.mem_append_left _ (List.mem_of_getElem? (i := 5) (by decide +kernel)))) rfl
theorem wi_X3 : Cond.initialized RX3 ∈ sw_tbl := sw_mem (List.mem_append_right _ (List.mem_append_left _ (List.mem_of_getElem? (i := 3) (by decide +kernel)))) rfl
theorem wi_X4 : Cond.initialized RX4 ∈ sw_tbl := sw_mem (List.mem_append_right _ (List.mem_append_left _ (List.mem_of_getElem? (i := 2) (by decide +kernel)))) rfl
theorem wi_L : Cond.initialized RL ∈ sw_tbl := sw_mem (List.mem_append_right _ (List.mem_append_left _ (List.mem_of_getElem? (i := 0) (by decide +kernel)))) rfl
theorem wi_X6 : Cond.initialized RX6 ∈ sw_tbl := sw_mem (List.mem_append_right _ (List.mem_append_left _ (List.mem_of_getElem? (i := 8) (by decide +kernel)))) rfl
theorem wi_J6 : Cond.initialized RJ6 ∈ sw_tbl := sw_mem (List.mem_append_right _ (List.mem_append_left _ (List.mem_of_getElem? (i := 10) (by decide +kernel)))) rfl
theorem wi_J9 : Cond.initialized RJ9 ∈ sw_tbl := sw_mem (List.mem_append_right _ (List.mem_append_left _ (List.mem_of_getElem? (i := 11) (by decide +kernel)))) rfl
theorem wi_J7 : Cond.initialized RJ7 ∈ sw_tbl := sw_mem (List.mem_append_right _ (List.mem_append_left _ (List.mem_of_getElem? (i := 7) (by decide +kernel)))) rfl
theorem wk_J7_fill_53178 : Cond.code yJ7_fill_53178 cJ7_fill_53178 4 none ∈ sw_tbl := sw_mem (List.mem_append_right _ (List.mem_append_left _ (List.mem_of_getElem? (i := 224) rfl))) rfl
theorem wt_J7_fill_53178 : Cond.static yJ7_fill_53178 ∈ sw_tbl := sw_mem (List.mem_append_right _ (List.mem_append_left _ (List.mem_of_getElem? (i := 223) (by decide +kernel)))) rfl
theorem ws_J7_fill_53178 : sw_MS yJ7_fill_53178 cJ7_fill_53178 4 none 2 := ⟨wk_J7_fill_53178, wt_J7_fill_53178, wi_J7, ⟨by decide, by decide, by decide +kernel⟩, by decide⟩
theorem wk_J6_bitCount_0f7a4 : Cond.code yJ6_bitCount_0f7a4 cJ6_bitCount_0f7a4 1 (some .int) ∈ sw_tbl := sw_mem (List.mem_append_right _ (List.mem_append_right _ (List.mem_append_left _ (List.mem_of_getElem? (i := 169) rfl)))) rfl
theorem wt_J6_bitCount_0f7a4 : Cond.static yJ6_bitCount_0f7a4 ∈ sw_tbl := sw_mem (List.mem_append_right _ (List.mem_append_right _ (List.mem_append_left _ (List.mem_of_getElem? (i := 168) (by decide +kernel))))) rfl
theorem ws_J6_bitCount_0f7a4 : sw_MS yJ6_bitCount_0f7a4 cJ6_bitCount_0f7a4 1 (some .int) 1 := ⟨wk_J6_bitCount_0f7a4, wt_J6_bitCount_0f7a4, wi_J6, ⟨by decide, by decide, by decide +kernel⟩, by decide⟩
theorem wk_X0_tally : Cond.code yX0_tally cX0_tally 3 none ∈ sw_tbl := sw_mem (List.mem_append_right _ (List.mem_append_right _ (List.mem_append_right _ (List.mem_append_left _ (List.mem_of_getElem? (i := 141) rfl))))) rfl
theorem wt_X0_tally : Cond.instanceMethod yX0_tally ∈ sw_tbl := sw_mem (List.mem_append_right _ (List.mem_append_right _ (List.mem_append_right _ (List.mem_append_left _ (List.mem_of_getElem? (i := 140) (by decide +kernel)))))) rfl
theorem we_X0_tally : Cond.selects RX0 yX0_tally yX0_tally ∈ sw_tbl := sw_mem (List.mem_append_left _ (List.mem_of_getElem? (i := 13) (by decide +kernel))) rfl
theorem ws_X0_tally : sw_MV yX0_tally cX0_tally 3 none 1 RX0 := ⟨wk_X0_tally, wt_X0_tally, we_X0_tally, wi_X0, ⟨by decide, by decide, by decide +kernel⟩, by decide⟩
theorem wk_X4_sets : Cond.code yX4_sets cX4_sets 1 (some .int) ∈ sw_tbl := sw_mem (List.mem_append_right _ (List.mem_append_right _ (List.mem_append_right _ (List.mem_append_left _ (List.mem_of_getElem? (i := 47) rfl))))) rfl
theorem wt_X4_sets : Cond.instanceMethod yX4_sets ∈ sw_tbl := sw_mem (List.mem_append_right _ (List.mem_append_right _ (List.mem_append_right _ (List.mem_append_left _ (List.mem_of_getElem? (i := 45) (by decide +kernel)))))) rfl
theorem we_X4_sets : Cond.selects RX4 yX4_sets yX4_sets ∈ sw_tbl := sw_mem (List.mem_append_right _ (List.mem_append_right _ (List.mem_append_right _ (List.mem_append_left _ (List.mem_of_getElem? (i := 46) (by decide +kernel)))))) rfl
theorem ws_X4_sets : sw_MV yX4_sets cX4_sets 1 (some .int) 0 RX4 := ⟨wk_X4_sets, wt_X4_sets, we_X4_sets, wi_X4, ⟨by decide, by decide, by decide +kernel⟩, by decide⟩
theorem wk_X4_notIn : Cond.code yX4_notIn cX4_notIn 1 (some .int) ∈ sw_tbl := sw_mem (List.mem_append_right _ (List.mem_append_right _ (List.mem_append_right _ (List.mem_append_left _ (List.mem_of_getElem? (i := 63) rfl))))) rfl
theorem wt_X4_notIn : Cond.instanceMethod yX4_notIn ∈ sw_tbl := sw_mem (List.mem_append_right _ (List.mem_append_right _ (List.mem_append_right _ (List.mem_append_left _ (List.mem_of_getElem? (i := 61) (by decide +kernel)))))) rfl
theorem we_X4_notIn : Cond.selects RX4 yX4_notIn yX4_notIn ∈ sw_tbl := sw_mem (List.mem_append_right _ (List.mem_append_right _ (List.mem_append_right _ (List.mem_append_left _ (List.mem_of_getElem? (i := 62) (by decide +kernel)))))) rfl
theorem ws_X4_notIn : sw_MV yX4_notIn cX4_notIn 1 (some .int) 0 RX4 := ⟨wk_X4_notIn, wt_X4_notIn, we_X4_notIn, wi_X4, ⟨by decide, by decide, by decide +kernel⟩, by decide⟩
theorem wk_X4_woundNext : Cond.code yX4_woundNext cX4_woundNext 2 (some .int) ∈ sw_tbl := sw_mem (List.mem_append_right _ (List.mem_append_right _ (List.mem_append_left _ (List.mem_of_getElem? (i := 221) rfl)))) rfl
theorem wt_X4_woundNext : Cond.instanceMethod yX4_woundNext ∈ sw_tbl := sw_mem (List.mem_append_right _ (List.mem_append_right _ (List.mem_append_left _ (List.mem_of_getElem? (i := 219) (by decide +kernel))))) rfl
theorem we_X4_woundNext : Cond.selects RX4 yX4_woundNext yX4_woundNext ∈ sw_tbl := sw_mem (List.mem_append_right _ (List.mem_append_right _ (List.mem_append_left _ (List.mem_of_getElem? (i := 220) (by decide +kernel))))) rfl
theorem ws_X4_woundNext : sw_MV yX4_woundNext cX4_woundNext 2 (some .int) 1 RX4 := ⟨wk_X4_woundNext, wt_X4_woundNext, we_X4_woundNext, wi_X4, ⟨by decide, by decide, by decide +kernel⟩, by decide⟩
theorem wk_X4_strikesNext : Cond.code yX4_strikesNext cX4_strikesNext 2 (some .int) ∈ sw_tbl := sw_mem (List.mem_append_right _ (List.mem_append_right _ (List.mem_append_left _ (List.mem_of_getElem? (i := 234) rfl)))) rfl
theorem wt_X4_strikesNext : Cond.instanceMethod yX4_strikesNext ∈ sw_tbl := sw_mem (List.mem_append_right _ (List.mem_append_right _ (List.mem_append_left _ (List.mem_of_getElem? (i := 232) (by decide +kernel))))) rfl
theorem we_X4_strikesNext : Cond.selects RX4 yX4_strikesNext yX4_strikesNext ∈ sw_tbl := sw_mem (List.mem_append_right _ (List.mem_append_right _ (List.mem_append_left _ (List.mem_of_getElem? (i := 233) (by decide +kernel))))) rfl
theorem ws_X4_strikesNext : sw_MV yX4_strikesNext cX4_strikesNext 2 (some .int) 1 RX4 := ⟨wk_X4_strikesNext, wt_X4_strikesNext, we_X4_strikesNext, wi_X4, ⟨by decide, by decide, by decide +kernel⟩, by decide⟩
theorem wk_X4_isOf : Cond.code yX4_isOf cX4_isOf 4 (some .boolean) ∈ sw_tbl := sw_mem (List.mem_append_right _ (List.mem_append_right _ (List.mem_append_left _ (List.mem_of_getElem? (i := 166) rfl)))) rfl
theorem wt_X4_isOf : Cond.instanceMethod yX4_isOf ∈ sw_tbl := sw_mem (List.mem_append_right _ (List.mem_append_right _ (List.mem_append_left _ (List.mem_of_getElem? (i := 164) (by decide +kernel))))) rfl
theorem we_X4_isOf : Cond.selects RX4 yX4_isOf yX4_isOf ∈ sw_tbl := sw_mem (List.mem_append_right _ (List.mem_append_right _ (List.mem_append_left _ (List.mem_of_getElem? (i := 165) (by decide +kernel))))) rfl
theorem ws_X4_isOf : sw_MV yX4_isOf cX4_isOf 4 (some .boolean) 2 RX4 := ⟨wk_X4_isOf, wt_X4_isOf, we_X4_isOf, wi_X4, ⟨by decide, by decide, by decide +kernel⟩, by decide⟩
theorem wk_X4_allOf : Cond.code yX4_allOf cX4_allOf 4 (some .int) ∈ sw_tbl := sw_mem (List.mem_append_right _ (List.mem_append_right _ (List.mem_append_left _ (List.mem_of_getElem? (i := 162) rfl)))) rfl
theorem wt_X4_allOf : Cond.instanceMethod yX4_allOf ∈ sw_tbl := sw_mem (List.mem_append_right _ (List.mem_append_right _ (List.mem_append_left _ (List.mem_of_getElem? (i := 160) (by decide +kernel))))) rfl
theorem we_X4_allOf : Cond.selects RX4 yX4_allOf yX4_allOf ∈ sw_tbl := sw_mem (List.mem_append_right _ (List.mem_append_right _ (List.mem_append_left _ (List.mem_of_getElem? (i := 161) (by decide +kernel))))) rfl
theorem ws_X4_allOf : sw_MV yX4_allOf cX4_allOf 4 (some .int) 1 RX4 := ⟨wk_X4_allOf, wt_X4_allOf, we_X4_allOf, wi_X4, ⟨by decide, by decide, by decide +kernel⟩, by decide⟩
theorem wk_X4_turns : Cond.code yX4_turns cX4_turns 6 (some .int) ∈ sw_tbl := sw_mem (List.mem_append_right _ (List.mem_append_right _ (List.mem_append_left _ (List.mem_of_getElem? (i := 158) rfl)))) rfl
theorem wt_X4_turns : Cond.instanceMethod yX4_turns ∈ sw_tbl := sw_mem (List.mem_append_right _ (List.mem_append_right _ (List.mem_append_left _ (List.mem_of_getElem? (i := 156) (by decide +kernel))))) rfl
theorem we_X4_turns : Cond.selects RX4 yX4_turns yX4_turns ∈ sw_tbl := sw_mem (List.mem_append_right _ (List.mem_append_right _ (List.mem_append_left _ (List.mem_of_getElem? (i := 157) (by decide +kernel))))) rfl
theorem ws_X4_turns : sw_MV yX4_turns cX4_turns 6 (some .int) 3 RX4 := ⟨wk_X4_turns, wt_X4_turns, we_X4_turns, wi_X4, ⟨by decide, by decide, by decide +kernel⟩, by decide⟩
theorem wk_X4_woundBy : Cond.code yX4_woundBy cX4_woundBy 6 (some .int) ∈ sw_tbl := sw_mem (List.mem_append_right _ (List.mem_append_right _ (List.mem_append_left _ (List.mem_of_getElem? (i := 210) rfl)))) rfl
theorem wt_X4_woundBy : Cond.instanceMethod yX4_woundBy ∈ sw_tbl := sw_mem (List.mem_append_right _ (List.mem_append_right _ (List.mem_append_left _ (List.mem_of_getElem? (i := 208) (by decide +kernel))))) rfl
theorem we_X4_woundBy : Cond.selects RX4 yX4_woundBy yX4_woundBy ∈ sw_tbl := sw_mem (List.mem_append_right _ (List.mem_append_right _ (List.mem_append_left _ (List.mem_of_getElem? (i := 209) (by decide +kernel))))) rfl
theorem ws_X4_woundBy : sw_MV yX4_woundBy cX4_woundBy 6 (some .int) 3 RX4 := ⟨wk_X4_woundBy, wt_X4_woundBy, we_X4_woundBy, wi_X4, ⟨by decide, by decide, by decide +kernel⟩, by decide⟩
theorem wk_X4_woundBySet : Cond.code yX4_woundBySet cX4_woundBySet 5 (some .int) ∈ sw_tbl := sw_mem (List.mem_append_right _ (List.mem_append_right _ (List.mem_append_right _ (List.mem_append_left _ (List.mem_of_getElem? (i := 51) rfl))))) rfl
theorem wt_X4_woundBySet : Cond.instanceMethod yX4_woundBySet ∈ sw_tbl := sw_mem (List.mem_append_right _ (List.mem_append_right _ (List.mem_append_right _ (List.mem_append_left _ (List.mem_of_getElem? (i := 49) (by decide +kernel)))))) rfl
theorem we_X4_woundBySet : Cond.selects RX4 yX4_woundBySet yX4_woundBySet ∈ sw_tbl := sw_mem (List.mem_append_right _ (List.mem_append_right _ (List.mem_append_right _ (List.mem_append_left _ (List.mem_of_getElem? (i := 50) (by decide +kernel)))))) rfl
theorem ws_X4_woundBySet : sw_MV yX4_woundBySet cX4_woundBySet 5 (some .int) 1 RX4 := ⟨wk_X4_woundBySet, wt_X4_woundBySet, we_X4_woundBySet, wi_X4, ⟨by decide, by decide, by decide +kernel⟩, by decide⟩
theorem wk_X0_search : Cond.code yX0_search cX0_search 3 none ∈ sw_tbl := sw_mem (List.mem_append_right _ (List.mem_append_right _ (List.mem_append_right _ (List.mem_append_left _ (List.mem_of_getElem? (i := 132) rfl))))) rfl
theorem wt_X0_search : Cond.instanceMethod yX0_search ∈ sw_tbl := sw_mem (List.mem_append_right _ (List.mem_append_right _ (List.mem_append_right _ (List.mem_append_left _ (List.mem_of_getElem? (i := 130) (by decide +kernel)))))) rfl
theorem we_X0_search : Cond.selects RX0 yX0_search yX0_search ∈ sw_tbl := sw_mem (List.mem_append_right _ (List.mem_append_right _ (List.mem_append_right _ (List.mem_append_left _ (List.mem_of_getElem? (i := 131) (by decide +kernel)))))) rfl
theorem ws_X0_search : sw_MV yX0_search cX0_search 3 none 1 RX0 := ⟨wk_X0_search, wt_X0_search, we_X0_search, wi_X0, ⟨by decide, by decide, by decide +kernel⟩, by decide⟩
theorem wk_X4_clockAfter : Cond.code yX4_clockAfter cX4_clockAfter 2 (some .int) ∈ sw_tbl := sw_mem (List.mem_append_right _ (List.mem_append_right _ (List.mem_append_left _ (List.mem_of_getElem? (i := 217) rfl)))) rfl
theorem wt_X4_clockAfter : Cond.instanceMethod yX4_clockAfter ∈ sw_tbl := sw_mem (List.mem_append_right _ (List.mem_append_right _ (List.mem_append_left _ (List.mem_of_getElem? (i := 215) (by decide +kernel))))) rfl
theorem we_X4_clockAfter : Cond.selects RX4 yX4_clockAfter yX4_clockAfter ∈ sw_tbl := sw_mem (List.mem_append_right _ (List.mem_append_right _ (List.mem_append_left _ (List.mem_of_getElem? (i := 216) (by decide +kernel))))) rfl
theorem ws_X4_clockAfter : sw_MV yX4_clockAfter cX4_clockAfter 2 (some .int) 1 RX4 := ⟨wk_X4_clockAfter, wt_X4_clockAfter, we_X4_clockAfter, wi_X4, ⟨by decide, by decide, by decide +kernel⟩, by decide⟩
theorem wk_X1_weigh : Cond.code yX1_weigh cX1_weigh 5 none ∈ sw_tbl := sw_mem (List.mem_append_right _ (List.mem_append_right _ (List.mem_append_right _ (List.mem_append_left _ (List.mem_of_getElem? (i := 95) rfl))))) rfl
theorem wt_X1_weigh : Cond.instanceMethod yX1_weigh ∈ sw_tbl := sw_mem (List.mem_append_right _ (List.mem_append_right _ (List.mem_append_right _ (List.mem_append_left _ (List.mem_of_getElem? (i := 94) (by decide +kernel)))))) rfl
theorem we_X1_weigh : Cond.selects RX1 yX1_weigh yX1_weigh ∈ sw_tbl := sw_mem (List.mem_append_left _ (List.mem_of_getElem? (i := 11) (by decide +kernel))) rfl
theorem ws_X1_weigh : sw_MV yX1_weigh cX1_weigh 5 none 3 RX1 := ⟨wk_X1_weigh, wt_X1_weigh, we_X1_weigh, wi_X1, ⟨by decide, by decide, by decide +kernel⟩, by decide⟩
theorem wk_X1_letIn : Cond.code yX1_letIn cX1_letIn 10 none ∈ sw_tbl := sw_mem (List.mem_append_right _ (List.mem_append_right _ (List.mem_append_right _ (List.mem_append_left _ (List.mem_of_getElem? (i := 91) rfl))))) rfl
theorem wt_X1_letIn : Cond.static yX1_letIn ∈ sw_tbl := sw_mem (List.mem_append_right _ (List.mem_append_right _ (List.mem_append_right _ (List.mem_append_left _ (List.mem_of_getElem? (i := 90) (by decide +kernel)))))) rfl
theorem ws_X1_letIn : sw_MS yX1_letIn cX1_letIn 10 none 6 := ⟨wk_X1_letIn, wt_X1_letIn, wi_X1, ⟨by decide, by decide, by decide +kernel⟩, by decide⟩
theorem wk_X1_search : Cond.code yX1_search cX1_search 3 none ∈ sw_tbl := sw_mem (List.mem_append_right _ (List.mem_append_right _ (List.mem_append_right _ (List.mem_append_left _ (List.mem_of_getElem? (i := 88) rfl))))) rfl
theorem wt_X1_search : Cond.instanceMethod yX1_search ∈ sw_tbl := sw_mem (List.mem_append_right _ (List.mem_append_right _ (List.mem_append_right _ (List.mem_append_left _ (List.mem_of_getElem? (i := 86) (by decide +kernel)))))) rfl
theorem we_X1_search : Cond.selects RX1 yX1_search yX1_search ∈ sw_tbl := sw_mem (List.mem_append_right _ (List.mem_append_right _ (List.mem_append_right _ (List.mem_append_left _ (List.mem_of_getElem? (i := 87) (by decide +kernel)))))) rfl
theorem ws_X1_search : sw_MV yX1_search cX1_search 3 none 2 RX1 := ⟨wk_X1_search, wt_X1_search, we_X1_search, wi_X1, ⟨by decide, by decide, by decide +kernel⟩, by decide⟩
theorem wk_X2_lineUp : Cond.code yX2_lineUp cX2_lineUp 5 none ∈ sw_tbl := sw_mem (List.mem_append_right _ (List.mem_append_right _ (List.mem_append_right _ (List.mem_append_left _ (List.mem_of_getElem? (i := 68) rfl))))) rfl
theorem wt_X2_lineUp : Cond.static yX2_lineUp ∈ sw_tbl := sw_mem (List.mem_append_right _ (List.mem_append_right _ (List.mem_append_right _ (List.mem_append_left _ (List.mem_of_getElem? (i := 67) (by decide +kernel)))))) rfl
theorem ws_X2_lineUp : sw_MS yX2_lineUp cX2_lineUp 5 none 4 := ⟨wk_X2_lineUp, wt_X2_lineUp, wi_X2, ⟨by decide, by decide, by decide +kernel⟩, by decide⟩
theorem wk_X2_search : Cond.code yX2_search cX2_search 1 none ∈ sw_tbl := sw_mem (List.mem_append_right _ (List.mem_append_right _ (List.mem_append_right _ (List.mem_append_left _ (List.mem_of_getElem? (i := 59) rfl))))) rfl
theorem wt_X2_search : Cond.instanceMethod yX2_search ∈ sw_tbl := sw_mem (List.mem_append_right _ (List.mem_append_right _ (List.mem_append_right _ (List.mem_append_left _ (List.mem_of_getElem? (i := 57) (by decide +kernel)))))) rfl
theorem we_X2_search : Cond.selects RX2 yX2_search yX2_search ∈ sw_tbl := sw_mem (List.mem_append_right _ (List.mem_append_right _ (List.mem_append_right _ (List.mem_append_left _ (List.mem_of_getElem? (i := 58) (by decide +kernel)))))) rfl
theorem ws_X2_search : sw_MV yX2_search cX2_search 1 none 0 RX2 := ⟨wk_X2_search, wt_X2_search, we_X2_search, wi_X2, ⟨by decide, by decide, by decide +kernel⟩, by decide⟩
theorem wk_X3_readFigure : Cond.code yX3_readFigure cX3_readFigure 4 (some .int) ∈ sw_tbl := sw_mem (List.mem_append_right _ (List.mem_append_right _ (List.mem_append_left _ (List.mem_of_getElem? (i := 111) rfl)))) rfl
theorem wt_X3_readFigure : Cond.instanceMethod yX3_readFigure ∈ sw_tbl := sw_mem (List.mem_append_right _ (List.mem_append_right _ (List.mem_append_left _ (List.mem_of_getElem? (i := 110) (by decide +kernel))))) rfl
theorem we_X3_readFigure : Cond.selects RX3 yX3_readFigure yX3_readFigure ∈ sw_tbl := sw_mem (List.mem_append_left _ (List.mem_of_getElem? (i := 4) (by decide +kernel))) rfl
theorem ws_X3_readFigure : sw_MV yX3_readFigure cX3_readFigure 4 (some .int) 2 RX3 := ⟨wk_X3_readFigure, wt_X3_readFigure, we_X3_readFigure, wi_X3, ⟨by decide, by decide, by decide +kernel⟩, by decide⟩
theorem wk_X3_readSpring : Cond.code yX3_readSpring cX3_readSpring 5 (some .boolean) ∈ sw_tbl := sw_mem (List.mem_append_right _ (List.mem_append_right _ (List.mem_append_left _ (List.mem_of_getElem? (i := 107) rfl)))) rfl
theorem wt_X3_readSpring : Cond.instanceMethod yX3_readSpring ∈ sw_tbl := sw_mem (List.mem_append_right _ (List.mem_append_right _ (List.mem_append_left _ (List.mem_of_getElem? (i := 106) (by decide +kernel))))) rfl
theorem we_X3_readSpring : Cond.selects RX3 yX3_readSpring yX3_readSpring ∈ sw_tbl := sw_mem (List.mem_append_left _ (List.mem_of_getElem? (i := 3) (by decide +kernel))) rfl
theorem ws_X3_readSpring : sw_MV yX3_readSpring cX3_readSpring 5 (some .boolean) 1 RX3 := ⟨wk_X3_readSpring, wt_X3_readSpring, we_X3_readSpring, wi_X3, ⟨by decide, by decide, by decide +kernel⟩, by decide⟩
theorem wk_X3_kindOf : Cond.code yX3_kindOf cX3_kindOf 1 (some .int) ∈ sw_tbl := sw_mem (List.mem_append_right _ (List.mem_append_right _ (List.mem_append_left _ (List.mem_of_getElem? (i := 122) rfl)))) rfl
theorem wt_X3_kindOf : Cond.static yX3_kindOf ∈ sw_tbl := sw_mem (List.mem_append_right _ (List.mem_append_right _ (List.mem_append_left _ (List.mem_of_getElem? (i := 121) (by decide +kernel))))) rfl
theorem ws_X3_kindOf : sw_MS yX3_kindOf cX3_kindOf 1 (some .int) 1 := ⟨wk_X3_kindOf, wt_X3_kindOf, wi_X3, ⟨by decide, by decide, by decide +kernel⟩, by decide⟩
theorem wk_X3_readKind : Cond.code yX3_readKind cX3_readKind 2 (some .int) ∈ sw_tbl := sw_mem (List.mem_append_right _ (List.mem_append_right _ (List.mem_append_left _ (List.mem_of_getElem? (i := 119) rfl)))) rfl
theorem wt_X3_readKind : Cond.instanceMethod yX3_readKind ∈ sw_tbl := sw_mem (List.mem_append_right _ (List.mem_append_right _ (List.mem_append_left _ (List.mem_of_getElem? (i := 118) (by decide +kernel))))) rfl
theorem we_X3_readKind : Cond.selects RX3 yX3_readKind yX3_readKind ∈ sw_tbl := sw_mem (List.mem_append_left _ (List.mem_of_getElem? (i := 6) (by decide +kernel))) rfl
theorem ws_X3_readKind : sw_MV yX3_readKind cX3_readKind 2 (some .int) 0 RX3 := ⟨wk_X3_readKind, wt_X3_readKind, we_X3_readKind, wi_X3, ⟨by decide, by decide, by decide +kernel⟩, by decide⟩
theorem wk_X3_readStranger : Cond.code yX3_readStranger cX3_readStranger 3 (some .boolean) ∈ sw_tbl := sw_mem (List.mem_append_right _ (List.mem_append_right _ (List.mem_append_left _ (List.mem_of_getElem? (i := 115) rfl)))) rfl
theorem wt_X3_readStranger : Cond.instanceMethod yX3_readStranger ∈ sw_tbl := sw_mem (List.mem_append_right _ (List.mem_append_right _ (List.mem_append_left _ (List.mem_of_getElem? (i := 114) (by decide +kernel))))) rfl
theorem we_X3_readStranger : Cond.selects RX3 yX3_readStranger yX3_readStranger ∈ sw_tbl := sw_mem (List.mem_append_left _ (List.mem_of_getElem? (i := 5) (by decide +kernel))) rfl
theorem ws_X3_readStranger : sw_MV yX3_readStranger cX3_readStranger 3 (some .boolean) 2 RX3 := ⟨wk_X3_readStranger, wt_X3_readStranger, we_X3_readStranger, wi_X3, ⟨by decide, by decide, by decide +kernel⟩, by decide⟩
theorem wk_X3_skipBlanks : Cond.code yX3_skipBlanks cX3_skipBlanks 1 none ∈ sw_tbl := sw_mem (List.mem_append_right _ (List.mem_append_right _ (List.mem_append_left _ (List.mem_of_getElem? (i := 103) rfl)))) rfl
theorem wt_X3_skipBlanks : Cond.instanceMethod yX3_skipBlanks ∈ sw_tbl := sw_mem (List.mem_append_right _ (List.mem_append_right _ (List.mem_append_left _ (List.mem_of_getElem? (i := 102) (by decide +kernel))))) rfl
theorem we_X3_skipBlanks : Cond.selects RX3 yX3_skipBlanks yX3_skipBlanks ∈ sw_tbl := sw_mem (List.mem_append_left _ (List.mem_of_getElem? (i := 2) (by decide +kernel))) rfl
theorem ws_X3_skipBlanks : sw_MV yX3_skipBlanks cX3_skipBlanks 1 none 0 RX3 := ⟨wk_X3_skipBlanks, wt_X3_skipBlanks, we_X3_skipBlanks, wi_X3, ⟨by decide, by decide, by decide +kernel⟩, by decide⟩
theorem wk_X3_readTown : Cond.code yX3_readTown cX3_readTown 5 (some .int) ∈ sw_tbl := sw_mem (List.mem_append_right _ (List.mem_append_right _ (List.mem_append_left _ (List.mem_of_getElem? (i := 99) rfl)))) rfl
theorem wt_X3_readTown : Cond.instanceMethod yX3_readTown ∈ sw_tbl := sw_mem (List.mem_append_right _ (List.mem_append_right _ (List.mem_append_left _ (List.mem_of_getElem? (i := 97) (by decide +kernel))))) rfl
theorem we_X3_readTown : Cond.selects RX3 yX3_readTown yX3_readTown ∈ sw_tbl := sw_mem (List.mem_append_right _ (List.mem_append_right _ (List.mem_append_left _ (List.mem_of_getElem? (i := 98) (by decide +kernel))))) rfl
theorem ws_X3_readTown : sw_MV yX3_readTown cX3_readTown 5 (some .int) 3 RX3 := ⟨wk_X3_readTown, wt_X3_readTown, we_X3_readTown, wi_X3, ⟨by decide, by decide, by decide +kernel⟩, by decide⟩
theorem wk_X4_takeFrom : Cond.code yX4_takeFrom cX4_takeFrom 2 none ∈ sw_tbl := sw_mem (List.mem_append_right _ (List.mem_append_right _ (List.mem_append_left _ (List.mem_of_getElem? (i := 134) rfl)))) rfl
theorem wt_X4_takeFrom : Cond.instanceMethod yX4_takeFrom ∈ sw_tbl := sw_mem (List.mem_append_right _ (List.mem_append_right _ (List.mem_append_left _ (List.mem_of_getElem? (i := 132) (by decide +kernel))))) rfl
theorem we_X4_takeFrom : Cond.selects RX4 yX4_takeFrom yX4_takeFrom ∈ sw_tbl := sw_mem (List.mem_append_right _ (List.mem_append_right _ (List.mem_append_left _ (List.mem_of_getElem? (i := 133) (by decide +kernel))))) rfl
theorem ws_X4_takeFrom : sw_MV yX4_takeFrom cX4_takeFrom 2 none 1 RX4 := ⟨wk_X4_takeFrom, wt_X4_takeFrom, we_X4_takeFrom, wi_X4, ⟨by decide, by decide, by decide +kernel⟩, by decide⟩
theorem wk_X4_begin : Cond.code yX4_begin cX4_begin 1 none ∈ sw_tbl := sw_mem (List.mem_append_right _ (List.mem_append_right _ (List.mem_append_left _ (List.mem_of_getElem? (i := 130) rfl)))) rfl
theorem wt_X4_begin : Cond.instanceMethod yX4_begin ∈ sw_tbl := sw_mem (List.mem_append_right _ (List.mem_append_right _ (List.mem_append_left _ (List.mem_of_getElem? (i := 128) (by decide +kernel))))) rfl
theorem we_X4_begin : Cond.selects RX4 yX4_begin yX4_begin ∈ sw_tbl := sw_mem (List.mem_append_right _ (List.mem_append_right _ (List.mem_append_left _ (List.mem_of_getElem? (i := 129) (by decide +kernel))))) rfl
theorem ws_X4_begin : sw_MV yX4_begin cX4_begin 1 none 0 RX4 := ⟨wk_X4_begin, wt_X4_begin, we_X4_begin, wi_X4, ⟨by decide, by decide, by decide +kernel⟩, by decide⟩
theorem wk_X4_has : Cond.code yX4_has cX4_has 2 (some .boolean) ∈ sw_tbl := sw_mem (List.mem_append_right _ (List.mem_append_right _ (List.mem_append_left _ (List.mem_of_getElem? (i := 146) rfl)))) rfl
theorem wt_X4_has : Cond.instanceMethod yX4_has ∈ sw_tbl := sw_mem (List.mem_append_right _ (List.mem_append_right _ (List.mem_append_left _ (List.mem_of_getElem? (i := 144) (by decide +kernel))))) rfl
theorem we_X4_has : Cond.selects RX4 yX4_has yX4_has ∈ sw_tbl := sw_mem (List.mem_append_right _ (List.mem_append_right _ (List.mem_append_left _ (List.mem_of_getElem? (i := 145) (by decide +kernel))))) rfl
theorem ws_X4_has : sw_MV yX4_has cX4_has 2 (some .boolean) 1 RX4 := ⟨wk_X4_has, wt_X4_has, we_X4_has, wi_X4, ⟨by decide, by decide, by decide +kernel⟩, by decide⟩
theorem wk_X4_isIn : Cond.code yX4_isIn cX4_isIn 2 (some .boolean) ∈ sw_tbl := sw_mem (List.mem_append_right _ (List.mem_append_right _ (List.mem_append_left _ (List.mem_of_getElem? (i := 154) rfl)))) rfl
theorem wt_X4_isIn : Cond.instanceMethod yX4_isIn ∈ sw_tbl := sw_mem (List.mem_append_right _ (List.mem_append_right _ (List.mem_append_left _ (List.mem_of_getElem? (i := 152) (by decide +kernel))))) rfl
theorem we_X4_isIn : Cond.selects RX4 yX4_isIn yX4_isIn ∈ sw_tbl := sw_mem (List.mem_append_right _ (List.mem_append_right _ (List.mem_append_left _ (List.mem_of_getElem? (i := 153) (by decide +kernel))))) rfl
theorem ws_X4_isIn : sw_MV yX4_isIn cX4_isIn 2 (some .boolean) 1 RX4 := ⟨wk_X4_isIn, wt_X4_isIn, we_X4_isIn, wi_X4, ⟨by decide, by decide, by decide +kernel⟩, by decide⟩
theorem wk_X4_isFull : Cond.code yX4_isFull cX4_isFull 2 (some .boolean) ∈ sw_tbl := sw_mem (List.mem_append_right _ (List.mem_append_right _ (List.mem_append_left _ (List.mem_of_getElem? (i := 197) rfl)))) rfl
theorem wt_X4_isFull : Cond.instanceMethod yX4_isFull ∈ sw_tbl := sw_mem (List.mem_append_right _ (List.mem_append_right _ (List.mem_append_left _ (List.mem_of_getElem? (i := 195) (by decide +kernel))))) rfl
theorem we_X4_isFull : Cond.selects RX4 yX4_isFull yX4_isFull ∈ sw_tbl := sw_mem (List.mem_append_right _ (List.mem_append_right _ (List.mem_append_left _ (List.mem_of_getElem? (i := 196) (by decide +kernel))))) rfl
theorem ws_X4_isFull : sw_MV yX4_isFull cX4_isFull 2 (some .boolean) 1 RX4 := ⟨wk_X4_isFull, wt_X4_isFull, we_X4_isFull, wi_X4, ⟨by decide, by decide, by decide +kernel⟩, by decide⟩
theorem wk_X4_carryOut : Cond.code yX4_carryOut cX4_carryOut 3 none ∈ sw_tbl := sw_mem (List.mem_append_right _ (List.mem_append_right _ (List.mem_append_left _ (List.mem_of_getElem? (i := 206) rfl)))) rfl
theorem wt_X4_carryOut : Cond.instanceMethod yX4_carryOut ∈ sw_tbl := sw_mem (List.mem_append_right _ (List.mem_append_right _ (List.mem_append_left _ (List.mem_of_getElem? (i := 205) (by decide +kernel))))) rfl
theorem we_X4_carryOut : Cond.selects RX4 yX4_carryOut yX4_carryOut ∈ sw_tbl := sw_mem (List.mem_append_left _ (List.mem_of_getElem? (i := 7) (by decide +kernel))) rfl
theorem ws_X4_carryOut : sw_MV yX4_carryOut cX4_carryOut 3 none 2 RX4 := ⟨wk_X4_carryOut, wt_X4_carryOut, we_X4_carryOut, wi_X4, ⟨by decide, by decide, by decide +kernel⟩, by decide⟩
theorem wk_X4_note : Cond.code yX4_note cX4_note 3 none ∈ sw_tbl := sw_mem (List.mem_append_right _ (List.mem_append_right _ (List.mem_append_left _ (List.mem_of_getElem? (i := 201) rfl)))) rfl
theorem wt_X4_note : Cond.instanceMethod yX4_note ∈ sw_tbl := sw_mem (List.mem_append_right _ (List.mem_append_right _ (List.mem_append_left _ (List.mem_of_getElem? (i := 199) (by decide +kernel))))) rfl
theorem we_X4_note : Cond.selects RX4 yX4_note yX4_note ∈ sw_tbl := sw_mem (List.mem_append_right _ (List.mem_append_right _ (List.mem_append_left _ (List.mem_of_getElem? (i := 200) (by decide +kernel))))) rfl
theorem ws_X4_note : sw_MV yX4_note cX4_note 3 none 2 RX4 := ⟨wk_X4_note, wt_X4_note, we_X4_note, wi_X4, ⟨by decide, by decide, by decide +kernel⟩, by decide⟩
theorem wk_X4_redo : Cond.code yX4_redo cX4_redo 3 none ∈ sw_tbl := sw_mem (List.mem_append_right _ (List.mem_append_right _ (List.mem_append_right _ (List.mem_append_left _ (List.mem_of_getElem? (i := 6) rfl))))) rfl
theorem wt_X4_redo : Cond.instanceMethod yX4_redo ∈ sw_tbl := sw_mem (List.mem_append_right _ (List.mem_append_right _ (List.mem_append_right _ (List.mem_append_left _ (List.mem_of_getElem? (i := 4) (by decide +kernel)))))) rfl
theorem we_X4_redo : Cond.selects RX4 yX4_redo yX4_redo ∈ sw_tbl := sw_mem (List.mem_append_right _ (List.mem_append_right _ (List.mem_append_right _ (List.mem_append_left _ (List.mem_of_getElem? (i := 5) (by decide +kernel)))))) rfl
theorem ws_X4_redo : sw_MV yX4_redo cX4_redo 3 none 1 RX4 := ⟨wk_X4_redo, wt_X4_redo, we_X4_redo, wi_X4, ⟨by decide, by decide, by decide +kernel⟩, by decide⟩
theorem wk_X4_trait : Cond.code yX4_trait cX4_trait 3 (some .int) ∈ sw_tbl := sw_mem (List.mem_append_right _ (List.mem_append_right _ (List.mem_append_left _ (List.mem_of_getElem? (i := 150) rfl)))) rfl
theorem wt_X4_trait : Cond.instanceMethod yX4_trait ∈ sw_tbl := sw_mem (List.mem_append_right _ (List.mem_append_right _ (List.mem_append_left _ (List.mem_of_getElem? (i := 148) (by decide +kernel))))) rfl
theorem we_X4_trait : Cond.selects RX4 yX4_trait yX4_trait ∈ sw_tbl := sw_mem (List.mem_append_right _ (List.mem_append_right _ (List.mem_append_left _ (List.mem_of_getElem? (i := 149) (by decide +kernel))))) rfl
theorem ws_X4_trait : sw_MV yX4_trait cX4_trait 3 (some .int) 2 RX4 := ⟨wk_X4_trait, wt_X4_trait, we_X4_trait, wi_X4, ⟨by decide, by decide, by decide +kernel⟩, by decide⟩
theorem wk_X4_markOf : Cond.code yX4_markOf cX4_markOf 4 (some .int) ∈ sw_tbl := sw_mem (List.mem_append_right _ (List.mem_append_right _ (List.mem_append_left _ (List.mem_of_getElem? (i := 181) rfl)))) rfl
theorem wt_X4_markOf : Cond.instanceMethod yX4_markOf ∈ sw_tbl := sw_mem (List.mem_append_right _ (List.mem_append_right _ (List.mem_append_left _ (List.mem_of_getElem? (i := 179) (by decide +kernel))))) rfl
theorem we_X4_markOf : Cond.selects RX4 yX4_markOf yX4_markOf ∈ sw_tbl := sw_mem (List.mem_append_right _ (List.mem_append_right _ (List.mem_append_left _ (List.mem_of_getElem? (i := 180) (by decide +kernel))))) rfl
theorem ws_X4_markOf : sw_MV yX4_markOf cX4_markOf 4 (some .int) 2 RX4 := ⟨wk_X4_markOf, wt_X4_markOf, we_X4_markOf, wi_X4, ⟨by decide, by decide, by decide +kernel⟩, by decide⟩
theorem wk_X4_hoursLeft : Cond.code yX4_hoursLeft cX4_hoursLeft 2 (some .int) ∈ sw_tbl := sw_mem (List.mem_append_right _ (List.mem_append_right _ (List.mem_append_right _ (List.mem_append_left _ (List.mem_of_getElem? (i := 26) rfl))))) rfl
theorem wt_X4_hoursLeft : Cond.instanceMethod yX4_hoursLeft ∈ sw_tbl := sw_mem (List.mem_append_right _ (List.mem_append_right _ (List.mem_append_right _ (List.mem_append_left _ (List.mem_of_getElem? (i := 24) (by decide +kernel)))))) rfl
theorem we_X4_hoursLeft : Cond.selects RX4 yX4_hoursLeft yX4_hoursLeft ∈ sw_tbl := sw_mem (List.mem_append_right _ (List.mem_append_right _ (List.mem_append_right _ (List.mem_append_left _ (List.mem_of_getElem? (i := 25) (by decide +kernel)))))) rfl
theorem ws_X4_hoursLeft : sw_MV yX4_hoursLeft cX4_hoursLeft 2 (some .int) 1 RX4 := ⟨wk_X4_hoursLeft, wt_X4_hoursLeft, we_X4_hoursLeft, wi_X4, ⟨by decide, by decide, by decide +kernel⟩, by decide⟩
theorem wk_X4_weight : Cond.code yX4_weight cX4_weight 6 (some .long) ∈ sw_tbl := sw_mem (List.mem_append_right _ (List.mem_append_right _ (List.mem_append_right _ (List.mem_append_left _ (List.mem_of_getElem? (i := 197) rfl))))) rfl
theorem wt_X4_weight : Cond.instanceMethod yX4_weight ∈ sw_tbl := sw_mem (List.mem_append_right _ (List.mem_append_right _ (List.mem_append_right _ (List.mem_append_left _ (List.mem_of_getElem? (i := 195) (by decide +kernel)))))) rfl
theorem we_X4_weight : Cond.selects RX4 yX4_weight yX4_weight ∈ sw_tbl := sw_mem (List.mem_append_right _ (List.mem_append_right _ (List.mem_append_right _ (List.mem_append_left _ (List.mem_of_getElem? (i := 196) (by decide +kernel)))))) rfl
theorem ws_X4_weight : sw_MV yX4_weight cX4_weight 6 (some .long) 2 RX4 := ⟨wk_X4_weight, wt_X4_weight, we_X4_weight, wi_X4, ⟨by decide, by decide, by decide +kernel⟩, by decide⟩
theorem wk_X4_weights : Cond.code yX4_weights cX4_weights 4 (some .long) ∈ sw_tbl := sw_mem (List.mem_append_right _ (List.mem_append_right _ (List.mem_append_right _ (List.mem_append_left _ (List.mem_of_getElem? (i := 201) rfl))))) rfl
theorem wt_X4_weights : Cond.instanceMethod yX4_weights ∈ sw_tbl := sw_mem (List.mem_append_right _ (List.mem_append_right _ (List.mem_append_right _ (List.mem_append_left _ (List.mem_of_getElem? (i := 199) (by decide +kernel)))))) rfl
theorem we_X4_weights : Cond.selects RX4 yX4_weights yX4_weights ∈ sw_tbl := sw_mem (List.mem_append_right _ (List.mem_append_right _ (List.mem_append_right _ (List.mem_append_left _ (List.mem_of_getElem? (i := 200) (by decide +kernel)))))) rfl
theorem ws_X4_weights : sw_MV yX4_weights cX4_weights 4 (some .long) 0 RX4 := ⟨wk_X4_weights, wt_X4_weights, we_X4_weights, wi_X4, ⟨by decide, by decide, by decide +kernel⟩, by decide⟩
theorem wk_X5_found : Cond.code yX5_found cX5_found 2 (some .int) ∈ sw_tbl := sw_mem (List.mem_append_right _ (List.mem_append_right _ (List.mem_append_left _ (List.mem_of_getElem? (i := 47) rfl)))) rfl
theorem wt_X5_found : Cond.instanceMethod yX5_found ∈ sw_tbl := sw_mem (List.mem_append_right _ (List.mem_append_right _ (List.mem_append_left _ (List.mem_of_getElem? (i := 46) (by decide +kernel))))) rfl
theorem we_X5_found : Cond.selects RX5 yX5_found yX5_found ∈ sw_tbl := sw_mem (List.mem_append_left _ (List.mem_of_getElem? (i := 0) (by decide +kernel))) rfl
theorem ws_X5_found : sw_MV yX5_found cX5_found 2 (some .int) 1 RX5 := ⟨wk_X5_found, wt_X5_found, we_X5_found, wi_X5, ⟨by decide, by decide, by decide +kernel⟩, by decide⟩
theorem wk_X5_isRow : Cond.code yX5_isRow cX5_isRow 1 (some .boolean) ∈ sw_tbl := sw_mem (List.mem_append_right _ (List.mem_append_right _ (List.mem_append_left _ (List.mem_of_getElem? (i := 43) rfl)))) rfl
theorem wt_X5_isRow : Cond.static yX5_isRow ∈ sw_tbl := sw_mem (List.mem_append_right _ (List.mem_append_right _ (List.mem_append_left _ (List.mem_of_getElem? (i := 42) (by decide +kernel))))) rfl
theorem ws_X5_isRow : sw_MS yX5_isRow cX5_isRow 1 (some .boolean) 1 := ⟨wk_X5_isRow, wt_X5_isRow, wi_X5, ⟨by decide, by decide, by decide +kernel⟩, by decide⟩
theorem wk_X5_row : Cond.code yX5_row cX5_row 3 (some .int) ∈ sw_tbl := sw_mem (List.mem_append_right _ (List.mem_append_right _ (List.mem_append_left _ (List.mem_of_getElem? (i := 40) rfl)))) rfl
theorem wt_X5_row : Cond.instanceMethod yX5_row ∈ sw_tbl := sw_mem (List.mem_append_right _ (List.mem_append_right _ (List.mem_append_left _ (List.mem_of_getElem? (i := 38) (by decide +kernel))))) rfl
theorem we_X5_row : Cond.selects RX5 yX5_row yX5_row ∈ sw_tbl := sw_mem (List.mem_append_right _ (List.mem_append_right _ (List.mem_append_left _ (List.mem_of_getElem? (i := 39) (by decide +kernel))))) rfl
theorem ws_X5_row : sw_MV yX5_row cX5_row 3 (some .int) 2 RX5 := ⟨wk_X5_row, wt_X5_row, we_X5_row, wi_X5, ⟨by decide, by decide, by decide +kernel⟩, by decide⟩
theorem wk_X5_refusedPlace : Cond.code yX5_refusedPlace cX5_refusedPlace 3 (some .int) ∈ sw_tbl := sw_mem (List.mem_append_right _ (List.mem_append_right _ (List.mem_append_left _ (List.mem_of_getElem? (i := 55) rfl)))) rfl
theorem wt_X5_refusedPlace : Cond.instanceMethod yX5_refusedPlace ∈ sw_tbl := sw_mem (List.mem_append_right _ (List.mem_append_right _ (List.mem_append_left _ (List.mem_of_getElem? (i := 54) (by decide +kernel))))) rfl
theorem we_X5_refusedPlace : Cond.selects RX5 yX5_refusedPlace yX5_refusedPlace ∈ sw_tbl := sw_mem (List.mem_append_left _ (List.mem_of_getElem? (i := 1) (by decide +kernel))) rfl
theorem ws_X5_refusedPlace : sw_MV yX5_refusedPlace cX5_refusedPlace 3 (some .int) 2 RX5 := ⟨wk_X5_refusedPlace, wt_X5_refusedPlace, we_X5_refusedPlace, wi_X5, ⟨by decide, by decide, by decide +kernel⟩, by decide⟩
theorem wk_X5_lay : Cond.code yX5_lay cX5_lay 5 (some .int) ∈ sw_tbl := sw_mem (List.mem_append_right _ (List.mem_append_right _ (List.mem_append_left _ (List.mem_of_getElem? (i := 51) rfl)))) rfl
theorem wt_X5_lay : Cond.instanceMethod yX5_lay ∈ sw_tbl := sw_mem (List.mem_append_right _ (List.mem_append_right _ (List.mem_append_left _ (List.mem_of_getElem? (i := 49) (by decide +kernel))))) rfl
theorem we_X5_lay : Cond.selects RX5 yX5_lay yX5_lay ∈ sw_tbl := sw_mem (List.mem_append_right _ (List.mem_append_right _ (List.mem_append_left _ (List.mem_of_getElem? (i := 50) (by decide +kernel))))) rfl
theorem ws_X5_lay : sw_MV yX5_lay cX5_lay 5 (some .int) 3 RX5 := ⟨wk_X5_lay, wt_X5_lay, we_X5_lay, wi_X5, ⟨by decide, by decide, by decide +kernel⟩, by decide⟩
theorem wk_X5_at : Cond.code yX5_at cX5_at 4 (some .int) ∈ sw_tbl := sw_mem (List.mem_append_right _ (List.mem_append_right _ (List.mem_append_left _ (List.mem_of_getElem? (i := 59) rfl)))) rfl
theorem wt_X5_at : Cond.instanceMethod yX5_at ∈ sw_tbl := sw_mem (List.mem_append_right _ (List.mem_append_right _ (List.mem_append_left _ (List.mem_of_getElem? (i := 57) (by decide +kernel))))) rfl
theorem we_X5_at : Cond.selects RX5 yX5_at yX5_at ∈ sw_tbl := sw_mem (List.mem_append_right _ (List.mem_append_right _ (List.mem_append_left _ (List.mem_of_getElem? (i := 58) (by decide +kernel))))) rfl
theorem ws_X5_at : sw_MV yX5_at cX5_at 4 (some .int) 2 RX5 := ⟨wk_X5_at, wt_X5_at, we_X5_at, wi_X5, ⟨by decide, by decide, by decide +kernel⟩, by decide⟩
theorem wk_X5_tear : Cond.code yX5_tear cX5_tear 2 (some .int) ∈ sw_tbl := sw_mem (List.mem_append_right _ (List.mem_append_right _ (List.mem_append_left _ (List.mem_of_getElem? (i := 63) rfl)))) rfl
theorem wt_X5_tear : Cond.instanceMethod yX5_tear ∈ sw_tbl := sw_mem (List.mem_append_right _ (List.mem_append_right _ (List.mem_append_left _ (List.mem_of_getElem? (i := 61) (by decide +kernel))))) rfl
theorem we_X5_tear : Cond.selects RX5 yX5_tear yX5_tear ∈ sw_tbl := sw_mem (List.mem_append_right _ (List.mem_append_right _ (List.mem_append_left _ (List.mem_of_getElem? (i := 62) (by decide +kernel))))) rfl
theorem ws_X5_tear : sw_MV yX5_tear cX5_tear 2 (some .int) 1 RX5 := ⟨wk_X5_tear, wt_X5_tear, we_X5_tear, wi_X5, ⟨by decide, by decide, by decide +kernel⟩, by decide⟩
theorem wk_X5_isSpan : Cond.code yX5_isSpan cX5_isSpan 3 (some .boolean) ∈ sw_tbl := sw_mem (List.mem_append_right _ (List.mem_append_right _ (List.mem_append_left _ (List.mem_of_getElem? (i := 70) rfl)))) rfl
theorem wt_X5_isSpan : Cond.static yX5_isSpan ∈ sw_tbl := sw_mem (List.mem_append_right _ (List.mem_append_right _ (List.mem_append_left _ (List.mem_of_getElem? (i := 69) (by decide +kernel))))) rfl
theorem ws_X5_isSpan : sw_MS yX5_isSpan cX5_isSpan 3 (some .boolean) 3 := ⟨wk_X5_isSpan, wt_X5_isSpan, wi_X5, ⟨by decide, by decide, by decide +kernel⟩, by decide⟩
theorem wk_X5_copy : Cond.code yX5_copy cX5_copy 6 (some .int) ∈ sw_tbl := sw_mem (List.mem_append_right _ (List.mem_append_right _ (List.mem_append_left _ (List.mem_of_getElem? (i := 67) rfl)))) rfl
theorem wt_X5_copy : Cond.instanceMethod yX5_copy ∈ sw_tbl := sw_mem (List.mem_append_right _ (List.mem_append_right _ (List.mem_append_left _ (List.mem_of_getElem? (i := 65) (by decide +kernel))))) rfl
theorem we_X5_copy : Cond.selects RX5 yX5_copy yX5_copy ∈ sw_tbl := sw_mem (List.mem_append_right _ (List.mem_append_right _ (List.mem_append_left _ (List.mem_of_getElem? (i := 66) (by decide +kernel))))) rfl
theorem ws_X5_copy : sw_MV yX5_copy cX5_copy 6 (some .int) 5 RX5 := ⟨wk_X5_copy, wt_X5_copy, we_X5_copy, wi_X5, ⟨by decide, by decide, by decide +kernel⟩, by decide⟩
theorem wk_X5_mean : Cond.code yX5_mean cX5_mean 6 (some .int) ∈ sw_tbl := sw_mem (List.mem_append_right _ (List.mem_append_right _ (List.mem_append_left _ (List.mem_of_getElem? (i := 77) rfl)))) rfl
theorem wt_X5_mean : Cond.instanceMethod yX5_mean ∈ sw_tbl := sw_mem (List.mem_append_right _ (List.mem_append_right _ (List.mem_append_left _ (List.mem_of_getElem? (i := 75) (by decide +kernel))))) rfl
theorem we_X5_mean : Cond.selects RX5 yX5_mean yX5_mean ∈ sw_tbl := sw_mem (List.mem_append_right _ (List.mem_append_right _ (List.mem_append_left _ (List.mem_of_getElem? (i := 76) (by decide +kernel))))) rfl
theorem ws_X5_mean : sw_MV yX5_mean cX5_mean 6 (some .int) 1 RX5 := ⟨wk_X5_mean, wt_X5_mean, we_X5_mean, wi_X5, ⟨by decide, by decide, by decide +kernel⟩, by decide⟩
theorem wk_J7_fill_031fb : Cond.code yJ7_fill_031fb cJ7_fill_031fb 4 none ∈ sw_tbl := sw_mem (List.mem_append_right _ (List.mem_append_right _ (List.mem_append_left _ (List.mem_of_getElem? (i := 87) rfl)))) rfl
theorem wt_J7_fill_031fb : Cond.static yJ7_fill_031fb ∈ sw_tbl := sw_mem (List.mem_append_right _ (List.mem_append_right _ (List.mem_append_left _ (List.mem_of_getElem? (i := 86) (by decide +kernel))))) rfl
theorem ws_J7_fill_031fb : sw_MS yJ7_fill_031fb cJ7_fill_031fb 4 none 2 := ⟨wk_J7_fill_031fb, wt_J7_fill_031fb, wi_J7, ⟨by decide, by decide, by decide +kernel⟩, by decide⟩
theorem wk_X5_isText : Cond.code yX5_isText cX5_isText 1 (some .boolean) ∈ sw_tbl := sw_mem (List.mem_append_right _ (List.mem_append_right _ (List.mem_append_left _ (List.mem_of_getElem? (i := 84) rfl)))) rfl
theorem wt_X5_isText : Cond.static yX5_isText ∈ sw_tbl := sw_mem (List.mem_append_right _ (List.mem_append_right _ (List.mem_append_left _ (List.mem_of_getElem? (i := 83) (by decide +kernel))))) rfl
theorem ws_X5_isText : sw_MS yX5_isText cX5_isText 1 (some .boolean) 1 := ⟨wk_X5_isText, wt_X5_isText, wi_X5, ⟨by decide, by decide, by decide +kernel⟩, by decide⟩
theorem wk_X5_text : Cond.code yX5_text cX5_text 3 (some .int) ∈ sw_tbl := sw_mem (List.mem_append_right _ (List.mem_append_right _ (List.mem_append_left _ (List.mem_of_getElem? (i := 81) rfl)))) rfl
theorem wt_X5_text : Cond.instanceMethod yX5_text ∈ sw_tbl := sw_mem (List.mem_append_right _ (List.mem_append_right _ (List.mem_append_left _ (List.mem_of_getElem? (i := 79) (by decide +kernel))))) rfl
theorem we_X5_text : Cond.selects RX5 yX5_text yX5_text ∈ sw_tbl := sw_mem (List.mem_append_right _ (List.mem_append_right _ (List.mem_append_left _ (List.mem_of_getElem? (i := 80) (by decide +kernel))))) rfl
theorem ws_X5_text : sw_MV yX5_text cX5_text 3 (some .int) 2 RX5 := ⟨wk_X5_text, wt_X5_text, we_X5_text, wi_X5, ⟨by decide, by decide, by decide +kernel⟩, by decide⟩
theorem wk_X5_put : Cond.code yX5_put cX5_put 5 (some .int) ∈ sw_tbl := sw_mem (List.mem_append_right _ (List.mem_append_right _ (List.mem_append_left _ (List.mem_of_getElem? (i := 91) rfl)))) rfl
theorem wt_X5_put : Cond.instanceMethod yX5_put ∈ sw_tbl := sw_mem (List.mem_append_right _ (List.mem_append_right _ (List.mem_append_left _ (List.mem_of_getElem? (i := 89) (by decide +kernel))))) rfl
theorem we_X5_put : Cond.selects RX5 yX5_put yX5_put ∈ sw_tbl := sw_mem (List.mem_append_right _ (List.mem_append_right _ (List.mem_append_left _ (List.mem_of_getElem? (i := 90) (by decide +kernel))))) rfl
theorem ws_X5_put : sw_MV yX5_put cX5_put 5 (some .int) 3 RX5 := ⟨wk_X5_put, wt_X5_put, we_X5_put, wi_X5, ⟨by decide, by decide, by decide +kernel⟩, by decide⟩
theorem wk_X5_fault : Cond.code yX5_fault cX5_fault 2 (some .int) ∈ sw_tbl := sw_mem (List.mem_append_right _ (List.mem_append_right _ (List.mem_append_left _ (List.mem_of_getElem? (i := 95) rfl)))) rfl
theorem wt_X5_fault : Cond.instanceMethod yX5_fault ∈ sw_tbl := sw_mem (List.mem_append_right _ (List.mem_append_right _ (List.mem_append_left _ (List.mem_of_getElem? (i := 93) (by decide +kernel))))) rfl
theorem we_X5_fault : Cond.selects RX5 yX5_fault yX5_fault ∈ sw_tbl := sw_mem (List.mem_append_right _ (List.mem_append_right _ (List.mem_append_left _ (List.mem_of_getElem? (i := 94) (by decide +kernel))))) rfl
theorem ws_X5_fault : sw_MV yX5_fault cX5_fault 2 (some .int) 1 RX5 := ⟨wk_X5_fault, wt_X5_fault, we_X5_fault, wi_X5, ⟨by decide, by decide, by decide +kernel⟩, by decide⟩
theorem wk_J7_fill_49daa : Cond.code yJ7_fill_49daa cJ7_fill_49daa 4 none ∈ sw_tbl := sw_mem (List.mem_append_right _ (List.mem_append_right _ (List.mem_append_left _ (List.mem_of_getElem? (i := 138) rfl)))) rfl
theorem wt_J7_fill_49daa : Cond.static yJ7_fill_49daa ∈ sw_tbl := sw_mem (List.mem_append_right _ (List.mem_append_right _ (List.mem_append_left _ (List.mem_of_getElem? (i := 137) (by decide +kernel))))) rfl
theorem ws_J7_fill_49daa : sw_MS yJ7_fill_49daa cJ7_fill_49daa 4 none 2 := ⟨wk_J7_fill_49daa, wt_J7_fill_49daa, wi_J7, ⟨by decide, by decide, by decide +kernel⟩, by decide⟩
theorem wk_X5_town : Cond.code yX5_town cX5_town 2 (some .int) ∈ sw_tbl := sw_mem (List.mem_append_right _ (List.mem_append_right _ (List.mem_append_left _ (List.mem_of_getElem? (i := 126) rfl)))) rfl
theorem wt_X5_town : Cond.instanceMethod yX5_town ∈ sw_tbl := sw_mem (List.mem_append_right _ (List.mem_append_right _ (List.mem_append_left _ (List.mem_of_getElem? (i := 124) (by decide +kernel))))) rfl
theorem we_X5_town : Cond.selects RX5 yX5_town yX5_town ∈ sw_tbl := sw_mem (List.mem_append_right _ (List.mem_append_right _ (List.mem_append_left _ (List.mem_of_getElem? (i := 125) (by decide +kernel))))) rfl
theorem ws_X5_town : sw_MV yX5_town cX5_town 2 (some .int) 1 RX5 := ⟨wk_X5_town, wt_X5_town, we_X5_town, wi_X5, ⟨by decide, by decide, by decide +kernel⟩, by decide⟩
theorem wk_X5_stranger : Cond.code yX5_stranger cX5_stranger 3 (some .int) ∈ sw_tbl := sw_mem (List.mem_append_right _ (List.mem_append_right _ (List.mem_append_left _ (List.mem_of_getElem? (i := 142) rfl)))) rfl
theorem wt_X5_stranger : Cond.instanceMethod yX5_stranger ∈ sw_tbl := sw_mem (List.mem_append_right _ (List.mem_append_right _ (List.mem_append_left _ (List.mem_of_getElem? (i := 140) (by decide +kernel))))) rfl
theorem we_X5_stranger : Cond.selects RX5 yX5_stranger yX5_stranger ∈ sw_tbl := sw_mem (List.mem_append_right _ (List.mem_append_right _ (List.mem_append_left _ (List.mem_of_getElem? (i := 141) (by decide +kernel))))) rfl
theorem ws_X5_stranger : sw_MV yX5_stranger cX5_stranger 3 (some .int) 2 RX5 := ⟨wk_X5_stranger, wt_X5_stranger, we_X5_stranger, wi_X5, ⟨by decide, by decide, by decide +kernel⟩, by decide⟩
theorem wk_X5_mark : Cond.code yX5_mark cX5_mark 3 (some .int) ∈ sw_tbl := sw_mem (List.mem_append_right _ (List.mem_append_right _ (List.mem_append_left _ (List.mem_of_getElem? (i := 176) rfl)))) rfl
theorem wt_X5_mark : Cond.instanceMethod yX5_mark ∈ sw_tbl := sw_mem (List.mem_append_right _ (List.mem_append_right _ (List.mem_append_left _ (List.mem_of_getElem? (i := 174) (by decide +kernel))))) rfl
theorem we_X5_mark : Cond.selects RX5 yX5_mark yX5_mark ∈ sw_tbl := sw_mem (List.mem_append_right _ (List.mem_append_right _ (List.mem_append_left _ (List.mem_of_getElem? (i := 175) (by decide +kernel))))) rfl
theorem ws_X5_mark : sw_MV yX5_mark cX5_mark 3 (some .int) 2 RX5 := ⟨wk_X5_mark, wt_X5_mark, we_X5_mark, wi_X5, ⟨by decide, by decide, by decide +kernel⟩, by decide⟩
theorem wk_X5_gate : Cond.code yX5_gate cX5_gate 3 (some .int) ∈ sw_tbl := sw_mem (List.mem_append_right _ (List.mem_append_right _ (List.mem_append_left _ (List.mem_of_getElem? (i := 188) rfl)))) rfl
theorem wt_X5_gate : Cond.instanceMethod yX5_gate ∈ sw_tbl := sw_mem (List.mem_append_right _ (List.mem_append_right _ (List.mem_append_left _ (List.mem_of_getElem? (i := 186) (by decide +kernel))))) rfl
theorem we_X5_gate : Cond.selects RX5 yX5_gate yX5_gate ∈ sw_tbl := sw_mem (List.mem_append_right _ (List.mem_append_right _ (List.mem_append_left _ (List.mem_of_getElem? (i := 187) (by decide +kernel))))) rfl
theorem ws_X5_gate : sw_MV yX5_gate cX5_gate 3 (some .int) 1 RX5 := ⟨wk_X5_gate, wt_X5_gate, we_X5_gate, wi_X5, ⟨by decide, by decide, by decide +kernel⟩, by decide⟩
theorem wk_X5_let : Cond.code yX5_let cX5_let 2 (some .int) ∈ sw_tbl := sw_mem (List.mem_append_right _ (List.mem_append_right _ (List.mem_append_left _ (List.mem_of_getElem? (i := 192) rfl)))) rfl
theorem wt_X5_let : Cond.instanceMethod yX5_let ∈ sw_tbl := sw_mem (List.mem_append_right _ (List.mem_append_right _ (List.mem_append_left _ (List.mem_of_getElem? (i := 190) (by decide +kernel))))) rfl
theorem we_X5_let : Cond.selects RX5 yX5_let yX5_let ∈ sw_tbl := sw_mem (List.mem_append_right _ (List.mem_append_right _ (List.mem_append_left _ (List.mem_of_getElem? (i := 191) (by decide +kernel))))) rfl
theorem ws_X5_let : sw_MV yX5_let cX5_let 2 (some .int) 1 RX5 := ⟨wk_X5_let, wt_X5_let, we_X5_let, wi_X5, ⟨by decide, by decide, by decide +kernel⟩, by decide⟩
theorem wk_X5_leave : Cond.code yX5_leave cX5_leave 2 (some .int) ∈ sw_tbl := sw_mem (List.mem_append_right _ (List.mem_append_right _ (List.mem_append_left _ (List.mem_of_getElem? (i := 225) rfl)))) rfl
theorem wt_X5_leave : Cond.instanceMethod yX5_leave ∈ sw_tbl := sw_mem (List.mem_append_right _ (List.mem_append_right _ (List.mem_append_left _ (List.mem_of_getElem? (i := 223) (by decide +kernel))))) rfl
theorem we_X5_leave : Cond.selects RX5 yX5_leave yX5_leave ∈ sw_tbl := sw_mem (List.mem_append_right _ (List.mem_append_right _ (List.mem_append_left _ (List.mem_of_getElem? (i := 224) (by decide +kernel))))) rfl
theorem ws_X5_leave : sw_MV yX5_leave cX5_leave 2 (some .int) 1 RX5 := ⟨wk_X5_leave, wt_X5_leave, we_X5_leave, wi_X5, ⟨by decide, by decide, by decide +kernel⟩, by decide⟩
theorem wk_X5_hour : Cond.code yX5_hour cX5_hour 2 (some .int) ∈ sw_tbl := sw_mem (List.mem_append_right _ (List.mem_append_right _ (List.mem_append_left _ (List.mem_of_getElem? (i := 230) rfl)))) rfl
theorem wt_X5_hour : Cond.instanceMethod yX5_hour ∈ sw_tbl := sw_mem (List.mem_append_right _ (List.mem_append_right _ (List.mem_append_left _ (List.mem_of_getElem? (i := 228) (by decide +kernel))))) rfl
theorem we_X5_hour : Cond.selects RX5 yX5_hour yX5_hour ∈ sw_tbl := sw_mem (List.mem_append_right _ (List.mem_append_right _ (List.mem_append_left _ (List.mem_of_getElem? (i := 229) (by decide +kernel))))) rfl
theorem ws_X5_hour : sw_MV yX5_hour cX5_hour 2 (some .int) 0 RX5 := ⟨wk_X5_hour, wt_X5_hour, we_X5_hour, wi_X5, ⟨by decide, by decide, by decide +kernel⟩, by decide⟩
theorem wk_X5_frost : Cond.code yX5_frost cX5_frost 3 (some .int) ∈ sw_tbl := sw_mem (List.mem_append_right _ (List.mem_append_right _ (List.mem_append_left _ (List.mem_of_getElem? (i := 238) rfl)))) rfl
theorem wt_X5_frost : Cond.instanceMethod yX5_frost ∈ sw_tbl := sw_mem (List.mem_append_right _ (List.mem_append_right _ (List.mem_append_left _ (List.mem_of_getElem? (i := 236) (by decide +kernel))))) rfl
theorem we_X5_frost : Cond.selects RX5 yX5_frost yX5_frost ∈ sw_tbl := sw_mem (List.mem_append_right _ (List.mem_append_right _ (List.mem_append_left _ (List.mem_of_getElem? (i := 237) (by decide +kernel))))) rfl
theorem ws_X5_frost : sw_MV yX5_frost cX5_frost 3 (some .int) 1 RX5 := ⟨wk_X5_frost, wt_X5_frost, we_X5_frost, wi_X5, ⟨by decide, by decide, by decide +kernel⟩, by decide⟩
theorem wk_X5_undo : Cond.code yX5_undo cX5_undo 3 (some .int) ∈ sw_tbl := sw_mem (List.mem_append_right _ (List.mem_append_right _ (List.mem_append_right _ (List.mem_append_left _ (List.mem_of_getElem? (i := 2) rfl))))) rfl
theorem wt_X5_undo : Cond.instanceMethod yX5_undo ∈ sw_tbl := sw_mem (List.mem_append_right _ (List.mem_append_right _ (List.mem_append_right _ (List.mem_append_left _ (List.mem_of_getElem? (i := 0) (by decide +kernel)))))) rfl
theorem we_X5_undo : Cond.selects RX5 yX5_undo yX5_undo ∈ sw_tbl := sw_mem (List.mem_append_right _ (List.mem_append_right _ (List.mem_append_right _ (List.mem_append_left _ (List.mem_of_getElem? (i := 1) (by decide +kernel)))))) rfl
theorem ws_X5_undo : sw_MV yX5_undo cX5_undo 3 (some .int) 1 RX5 := ⟨wk_X5_undo, wt_X5_undo, we_X5_undo, wi_X5, ⟨by decide, by decide, by decide +kernel⟩, by decide⟩
theorem wk_X5_isKeep : Cond.code yX5_isKeep cX5_isKeep 1 (some .boolean) ∈ sw_tbl := sw_mem (List.mem_append_right _ (List.mem_append_right _ (List.mem_append_right _ (List.mem_append_left _ (List.mem_of_getElem? (i := 14) rfl))))) rfl
theorem wt_X5_isKeep : Cond.static yX5_isKeep ∈ sw_tbl := sw_mem (List.mem_append_right _ (List.mem_append_right _ (List.mem_append_right _ (List.mem_append_left _ (List.mem_of_getElem? (i := 13) (by decide +kernel)))))) rfl
theorem ws_X5_isKeep : sw_MS yX5_isKeep cX5_isKeep 1 (some .boolean) 1 := ⟨wk_X5_isKeep, wt_X5_isKeep, wi_X5, ⟨by decide, by decide, by decide +kernel⟩, by decide⟩
theorem wk_X5_keep : Cond.code yX5_keep cX5_keep 2 (some .int) ∈ sw_tbl := sw_mem (List.mem_append_right _ (List.mem_append_right _ (List.mem_append_right _ (List.mem_append_left _ (List.mem_of_getElem? (i := 11) rfl))))) rfl
theorem wt_X5_keep : Cond.instanceMethod yX5_keep ∈ sw_tbl := sw_mem (List.mem_append_right _ (List.mem_append_right _ (List.mem_append_right _ (List.mem_append_left _ (List.mem_of_getElem? (i := 9) (by decide +kernel)))))) rfl
theorem we_X5_keep : Cond.selects RX5 yX5_keep yX5_keep ∈ sw_tbl := sw_mem (List.mem_append_right _ (List.mem_append_right _ (List.mem_append_right _ (List.mem_append_left _ (List.mem_of_getElem? (i := 10) (by decide +kernel)))))) rfl
theorem ws_X5_keep : sw_MV yX5_keep cX5_keep 2 (some .int) 1 RX5 := ⟨wk_X5_keep, wt_X5_keep, we_X5_keep, wi_X5, ⟨by decide, by decide, by decide +kernel⟩, by decide⟩
theorem wk_X5_on : Cond.code yX5_on cX5_on 2 (some .int) ∈ sw_tbl := sw_mem (List.mem_append_right _ (List.mem_append_right _ (List.mem_append_right _ (List.mem_append_left _ (List.mem_of_getElem? (i := 18) rfl))))) rfl
theorem wt_X5_on : Cond.instanceMethod yX5_on ∈ sw_tbl := sw_mem (List.mem_append_right _ (List.mem_append_right _ (List.mem_append_right _ (List.mem_append_left _ (List.mem_of_getElem? (i := 16) (by decide +kernel)))))) rfl
theorem we_X5_on : Cond.selects RX5 yX5_on yX5_on ∈ sw_tbl := sw_mem (List.mem_append_right _ (List.mem_append_right _ (List.mem_append_right _ (List.mem_append_left _ (List.mem_of_getElem? (i := 17) (by decide +kernel)))))) rfl
theorem ws_X5_on : sw_MV yX5_on cX5_on 2 (some .int) 1 RX5 := ⟨wk_X5_on, wt_X5_on, we_X5_on, wi_X5, ⟨by decide, by decide, by decide +kernel⟩, by decide⟩
theorem wk_X5_lasts : Cond.code yX5_lasts cX5_lasts 2 (some .int) ∈ sw_tbl := sw_mem (List.mem_append_right _ (List.mem_append_right _ (List.mem_append_right _ (List.mem_append_left _ (List.mem_of_getElem? (i := 22) rfl))))) rfl
theorem wt_X5_lasts : Cond.instanceMethod yX5_lasts ∈ sw_tbl := sw_mem (List.mem_append_right _ (List.mem_append_right _ (List.mem_append_right _ (List.mem_append_left _ (List.mem_of_getElem? (i := 20) (by decide +kernel)))))) rfl
theorem we_X5_lasts : Cond.selects RX5 yX5_lasts yX5_lasts ∈ sw_tbl := sw_mem (List.mem_append_right _ (List.mem_append_right _ (List.mem_append_right _ (List.mem_append_left _ (List.mem_of_getElem? (i := 21) (by decide +kernel)))))) rfl
theorem ws_X5_lasts : sw_MV yX5_lasts cX5_lasts 2 (some .int) 0 RX5 := ⟨wk_X5_lasts, wt_X5_lasts, we_X5_lasts, wi_X5, ⟨by decide, by decide, by decide +kernel⟩, by decide⟩
theorem wk_X5_canAllCome : Cond.code yX5_canAllCome cX5_canAllCome 6 (some .boolean) ∈ sw_tbl := sw_mem (List.mem_append_right _ (List.mem_append_right _ (List.mem_append_right _ (List.mem_append_left _ (List.mem_of_getElem? (i := 38) rfl))))) rfl
theorem wt_X5_canAllCome : Cond.instanceMethod yX5_canAllCome ∈ sw_tbl := sw_mem (List.mem_append_right _ (List.mem_append_right _ (List.mem_append_right _ (List.mem_append_left _ (List.mem_of_getElem? (i := 37) (by decide +kernel)))))) rfl
theorem we_X5_canAllCome : Cond.selects RX5 yX5_canAllCome yX5_canAllCome ∈ sw_tbl := sw_mem (List.mem_append_left _ (List.mem_of_getElem? (i := 9) (by decide +kernel))) rfl
theorem ws_X5_canAllCome : sw_MV yX5_canAllCome cX5_canAllCome 6 (some .boolean) 2 RX5 := ⟨wk_X5_canAllCome, wt_X5_canAllCome, we_X5_canAllCome, wi_X5, ⟨by decide, by decide, by decide +kernel⟩, by decide⟩
theorem wk_X5_refusedGuests : Cond.code yX5_refusedGuests cX5_refusedGuests 4 (some .int) ∈ sw_tbl := sw_mem (List.mem_append_right _ (List.mem_append_right _ (List.mem_append_right _ (List.mem_append_left _ (List.mem_of_getElem? (i := 34) rfl))))) rfl
theorem wt_X5_refusedGuests : Cond.instanceMethod yX5_refusedGuests ∈ sw_tbl := sw_mem (List.mem_append_right _ (List.mem_append_right _ (List.mem_append_right _ (List.mem_append_left _ (List.mem_of_getElem? (i := 33) (by decide +kernel)))))) rfl
theorem we_X5_refusedGuests : Cond.selects RX5 yX5_refusedGuests yX5_refusedGuests ∈ sw_tbl := sw_mem (List.mem_append_left _ (List.mem_of_getElem? (i := 8) (by decide +kernel))) rfl
theorem ws_X5_refusedGuests : sw_MV yX5_refusedGuests cX5_refusedGuests 4 (some .int) 3 RX5 := ⟨wk_X5_refusedGuests, wt_X5_refusedGuests, we_X5_refusedGuests, wi_X5, ⟨by decide, by decide, by decide +kernel⟩, by decide⟩
theorem wk_X5_wound : Cond.code yX5_wound cX5_wound 8 (some .int) ∈ sw_tbl := sw_mem (List.mem_append_right _ (List.mem_append_right _ (List.mem_append_right _ (List.mem_append_left _ (List.mem_of_getElem? (i := 30) rfl))))) rfl
theorem wt_X5_wound : Cond.instanceMethod yX5_wound ∈ sw_tbl := sw_mem (List.mem_append_right _ (List.mem_append_right _ (List.mem_append_right _ (List.mem_append_left _ (List.mem_of_getElem? (i := 28) (by decide +kernel)))))) rfl
theorem we_X5_wound : Cond.selects RX5 yX5_wound yX5_wound ∈ sw_tbl := sw_mem (List.mem_append_right _ (List.mem_append_right _ (List.mem_append_right _ (List.mem_append_left _ (List.mem_of_getElem? (i := 29) (by decide +kernel)))))) rfl
theorem ws_X5_wound : sw_MV yX5_wound cX5_wound 8 (some .int) 1 RX5 := ⟨wk_X5_wound, wt_X5_wound, we_X5_wound, wi_X5, ⟨by decide, by decide, by decide +kernel⟩, by decide⟩
theorem wk_X5_most : Cond.code yX5_most cX5_most 5 (some .int) ∈ sw_tbl := sw_mem (List.mem_append_right _ (List.mem_append_right _ (List.mem_append_right _ (List.mem_append_left _ (List.mem_of_getElem? (i := 43) rfl))))) rfl
theorem wt_X5_most : Cond.instanceMethod yX5_most ∈ sw_tbl := sw_mem (List.mem_append_right _ (List.mem_append_right _ (List.mem_append_right _ (List.mem_append_left _ (List.mem_of_getElem? (i := 41) (by decide +kernel)))))) rfl
theorem we_X5_most : Cond.selects RX5 yX5_most yX5_most ∈ sw_tbl := sw_mem (List.mem_append_right _ (List.mem_append_right _ (List.mem_append_right _ (List.mem_append_left _ (List.mem_of_getElem? (i := 42) (by decide +kernel)))))) rfl
theorem ws_X5_most : sw_MV yX5_most cX5_most 5 (some .int) 0 RX5 := ⟨wk_X5_most, wt_X5_most, we_X5_most, wi_X5, ⟨by decide, by decide, by decide +kernel⟩, by decide⟩
theorem wk_X5_fillRow : Cond.code yX5_fillRow cX5_fillRow 4 none ∈ sw_tbl := sw_mem (List.mem_append_right _ (List.mem_append_right _ (List.mem_append_right _ (List.mem_append_left _ (List.mem_of_getElem? (i := 74) rfl))))) rfl
theorem wt_X5_fillRow : Cond.instanceMethod yX5_fillRow ∈ sw_tbl := sw_mem (List.mem_append_right _ (List.mem_append_right _ (List.mem_append_right _ (List.mem_append_left _ (List.mem_of_getElem? (i := 73) (by decide +kernel)))))) rfl
theorem we_X5_fillRow : Cond.selects RX5 yX5_fillRow yX5_fillRow ∈ sw_tbl := sw_mem (List.mem_append_left _ (List.mem_of_getElem? (i := 10) (by decide +kernel))) rfl
theorem ws_X5_fillRow : sw_MV yX5_fillRow cX5_fillRow 4 none 3 RX5 := ⟨wk_X5_fillRow, wt_X5_fillRow, we_X5_fillRow, wi_X5, ⟨by decide, by decide, by decide +kernel⟩, by decide⟩
theorem wk_X5_order : Cond.code yX5_order cX5_order 2 (some .int) ∈ sw_tbl := sw_mem (List.mem_append_right _ (List.mem_append_right _ (List.mem_append_right _ (List.mem_append_left _ (List.mem_of_getElem? (i := 55) rfl))))) rfl
theorem wt_X5_order : Cond.instanceMethod yX5_order ∈ sw_tbl := sw_mem (List.mem_append_right _ (List.mem_append_right _ (List.mem_append_right _ (List.mem_append_left _ (List.mem_of_getElem? (i := 53) (by decide +kernel)))))) rfl
theorem we_X5_order : Cond.selects RX5 yX5_order yX5_order ∈ sw_tbl := sw_mem (List.mem_append_right _ (List.mem_append_right _ (List.mem_append_right _ (List.mem_append_left _ (List.mem_of_getElem? (i := 54) (by decide +kernel)))))) rfl
theorem ws_X5_order : sw_MV yX5_order cX5_order 2 (some .int) 1 RX5 := ⟨wk_X5_order, wt_X5_order, we_X5_order, wi_X5, ⟨by decide, by decide, by decide +kernel⟩, by decide⟩
theorem wk_X5_isDial : Cond.code yX5_isDial cX5_isDial 1 (some .boolean) ∈ sw_tbl := sw_mem (List.mem_append_right _ (List.mem_append_right _ (List.mem_append_right _ (List.mem_append_left _ (List.mem_of_getElem? (i := 84) rfl))))) rfl
theorem wt_X5_isDial : Cond.static yX5_isDial ∈ sw_tbl := sw_mem (List.mem_append_right _ (List.mem_append_right _ (List.mem_append_right _ (List.mem_append_left _ (List.mem_of_getElem? (i := 83) (by decide +kernel)))))) rfl
theorem ws_X5_isDial : sw_MS yX5_isDial cX5_isDial 1 (some .boolean) 1 := ⟨wk_X5_isDial, wt_X5_isDial, wi_X5, ⟨by decide, by decide, by decide +kernel⟩, by decide⟩
theorem wk_X5_isLettingSize : Cond.code yX5_isLettingSize cX5_isLettingSize 1 (some .boolean) ∈ sw_tbl := sw_mem (List.mem_append_right _ (List.mem_append_right _ (List.mem_append_right _ (List.mem_append_left _ (List.mem_of_getElem? (i := 81) rfl))))) rfl
theorem wt_X5_isLettingSize : Cond.static yX5_isLettingSize ∈ sw_tbl := sw_mem (List.mem_append_right _ (List.mem_append_right _ (List.mem_append_right _ (List.mem_append_left _ (List.mem_of_getElem? (i := 80) (by decide +kernel)))))) rfl
theorem ws_X5_isLettingSize : sw_MS yX5_isLettingSize cX5_isLettingSize 1 (some .boolean) 1 := ⟨wk_X5_isLettingSize, wt_X5_isLettingSize, wi_X5, ⟨by decide, by decide, by decide +kernel⟩, by decide⟩
theorem wk_X5_commonDivisor : Cond.code yX5_commonDivisor cX5_commonDivisor 11 (some .long) ∈ sw_tbl := sw_mem (List.mem_append_right _ (List.mem_append_right _ (List.mem_append_right _ (List.mem_append_left _ (List.mem_of_getElem? (i := 107) rfl))))) rfl
theorem wt_X5_commonDivisor : Cond.static yX5_commonDivisor ∈ sw_tbl := sw_mem (List.mem_append_right _ (List.mem_append_right _ (List.mem_append_right _ (List.mem_append_left _ (List.mem_of_getElem? (i := 106) (by decide +kernel)))))) rfl
theorem ws_X5_commonDivisor : sw_MS yX5_commonDivisor cX5_commonDivisor 11 (some .long) 2 := ⟨wk_X5_commonDivisor, wt_X5_commonDivisor, wi_X5, ⟨by decide, by decide, by decide +kernel⟩, by decide⟩
theorem wk_X5_tell : Cond.code yX5_tell cX5_tell 7 none ∈ sw_tbl := sw_mem (List.mem_append_right _ (List.mem_append_right _ (List.mem_append_right _ (List.mem_append_left _ (List.mem_of_getElem? (i := 104) rfl))))) rfl
theorem wt_X5_tell : Cond.instanceMethod yX5_tell ∈ sw_tbl := sw_mem (List.mem_append_right _ (List.mem_append_right _ (List.mem_append_right _ (List.mem_append_left _ (List.mem_of_getElem? (i := 103) (by decide +kernel)))))) rfl
theorem we_X5_tell : Cond.selects RX5 yX5_tell yX5_tell ∈ sw_tbl := sw_mem (List.mem_append_left _ (List.mem_of_getElem? (i := 12) (by decide +kernel))) rfl
theorem ws_X5_tell : sw_MV yX5_tell cX5_tell 7 none 2 RX5 := ⟨wk_X5_tell, wt_X5_tell, we_X5_tell, wi_X5, ⟨by decide, by decide, by decide +kernel⟩, by decide⟩
theorem wk_X5_ways : Cond.code yX5_ways cX5_ways 3 (some .int) ∈ sw_tbl := sw_mem (List.mem_append_right _ (List.mem_append_right _ (List.mem_append_right _ (List.mem_append_left _ (List.mem_of_getElem? (i := 78) rfl))))) rfl
theorem wt_X5_ways : Cond.instanceMethod yX5_ways ∈ sw_tbl := sw_mem (List.mem_append_right _ (List.mem_append_right _ (List.mem_append_right _ (List.mem_append_left _ (List.mem_of_getElem? (i := 76) (by decide +kernel)))))) rfl
theorem we_X5_ways : Cond.selects RX5 yX5_ways yX5_ways ∈ sw_tbl := sw_mem (List.mem_append_right _ (List.mem_append_right _ (List.mem_append_right _ (List.mem_append_left _ (List.mem_of_getElem? (i := 77) (by decide +kernel)))))) rfl
theorem ws_X5_ways : sw_MV yX5_ways cX5_ways 3 (some .int) 2 RX5 := ⟨wk_X5_ways, wt_X5_ways, we_X5_ways, wi_X5, ⟨by decide, by decide, by decide +kernel⟩, by decide⟩
theorem wk_X5_bread : Cond.code yX5_bread cX5_bread 4 (some .int) ∈ sw_tbl := sw_mem (List.mem_append_right _ (List.mem_append_right _ (List.mem_append_right _ (List.mem_append_left _ (List.mem_of_getElem? (i := 111) rfl))))) rfl
theorem wt_X5_bread : Cond.instanceMethod yX5_bread ∈ sw_tbl := sw_mem (List.mem_append_right _ (List.mem_append_right _ (List.mem_append_right _ (List.mem_append_left _ (List.mem_of_getElem? (i := 109) (by decide +kernel)))))) rfl
theorem we_X5_bread : Cond.selects RX5 yX5_bread yX5_bread ∈ sw_tbl := sw_mem (List.mem_append_right _ (List.mem_append_right _ (List.mem_append_right _ (List.mem_append_left _ (List.mem_of_getElem? (i := 110) (by decide +kernel)))))) rfl
theorem ws_X5_bread : sw_MV yX5_bread cX5_bread 4 (some .int) 3 RX5 := ⟨wk_X5_bread, wt_X5_bread, we_X5_bread, wi_X5, ⟨by decide, by decide, by decide +kernel⟩, by decide⟩
theorem wk_X5_goes : Cond.code yX5_goes cX5_goes 2 (some .int) ∈ sw_tbl := sw_mem (List.mem_append_right _ (List.mem_append_right _ (List.mem_append_right _ (List.mem_append_left _ (List.mem_of_getElem? (i := 115) rfl))))) rfl
theorem wt_X5_goes : Cond.instanceMethod yX5_goes ∈ sw_tbl := sw_mem (List.mem_append_right _ (List.mem_append_right _ (List.mem_append_right _ (List.mem_append_left _ (List.mem_of_getElem? (i := 113) (by decide +kernel)))))) rfl
theorem we_X5_goes : Cond.selects RX5 yX5_goes yX5_goes ∈ sw_tbl := sw_mem (List.mem_append_right _ (List.mem_append_right _ (List.mem_append_right _ (List.mem_append_left _ (List.mem_of_getElem? (i := 114) (by decide +kernel)))))) rfl
theorem ws_X5_goes : sw_MV yX5_goes cX5_goes 2 (some .int) 1 RX5 := ⟨wk_X5_goes, wt_X5_goes, we_X5_goes, wi_X5, ⟨by decide, by decide, by decide +kernel⟩, by decide⟩
theorem wk_X5_behind : Cond.code yX5_behind cX5_behind 8 (some .int) ∈ sw_tbl := sw_mem (List.mem_append_right _ (List.mem_append_right _ (List.mem_append_right _ (List.mem_append_left _ (List.mem_of_getElem? (i := 119) rfl))))) rfl
theorem wt_X5_behind : Cond.instanceMethod yX5_behind ∈ sw_tbl := sw_mem (List.mem_append_right _ (List.mem_append_right _ (List.mem_append_right _ (List.mem_append_left _ (List.mem_of_getElem? (i := 117) (by decide +kernel)))))) rfl
theorem we_X5_behind : Cond.selects RX5 yX5_behind yX5_behind ∈ sw_tbl := sw_mem (List.mem_append_right _ (List.mem_append_right _ (List.mem_append_right _ (List.mem_append_left _ (List.mem_of_getElem? (i := 118) (by decide +kernel)))))) rfl
theorem ws_X5_behind : sw_MV yX5_behind cX5_behind 8 (some .int) 1 RX5 := ⟨wk_X5_behind, wt_X5_behind, we_X5_behind, wi_X5, ⟨by decide, by decide, by decide +kernel⟩, by decide⟩
theorem wk_X5_isStrike : Cond.code yX5_isStrike cX5_isStrike 1 (some .boolean) ∈ sw_tbl := sw_mem (List.mem_append_right _ (List.mem_append_right _ (List.mem_append_right _ (List.mem_append_left _ (List.mem_of_getElem? (i := 128) rfl))))) rfl
theorem wt_X5_isStrike : Cond.static yX5_isStrike ∈ sw_tbl := sw_mem (List.mem_append_right _ (List.mem_append_right _ (List.mem_append_right _ (List.mem_append_left _ (List.mem_of_getElem? (i := 127) (by decide +kernel)))))) rfl
theorem ws_X5_isStrike : sw_MS yX5_isStrike cX5_isStrike 1 (some .boolean) 1 := ⟨wk_X5_isStrike, wt_X5_isStrike, wi_X5, ⟨by decide, by decide, by decide +kernel⟩, by decide⟩
theorem wk_X5_fits : Cond.code yX5_fits cX5_fits 2 (some .int) ∈ sw_tbl := sw_mem (List.mem_append_right _ (List.mem_append_right _ (List.mem_append_right _ (List.mem_append_left _ (List.mem_of_getElem? (i := 125) rfl))))) rfl
theorem wt_X5_fits : Cond.instanceMethod yX5_fits ∈ sw_tbl := sw_mem (List.mem_append_right _ (List.mem_append_right _ (List.mem_append_right _ (List.mem_append_left _ (List.mem_of_getElem? (i := 123) (by decide +kernel)))))) rfl
theorem we_X5_fits : Cond.selects RX5 yX5_fits yX5_fits ∈ sw_tbl := sw_mem (List.mem_append_right _ (List.mem_append_right _ (List.mem_append_right _ (List.mem_append_left _ (List.mem_of_getElem? (i := 124) (by decide +kernel)))))) rfl
theorem ws_X5_fits : sw_MV yX5_fits cX5_fits 2 (some .int) 1 RX5 := ⟨wk_X5_fits, wt_X5_fits, we_X5_fits, wi_X5, ⟨by decide, by decide, by decide +kernel⟩, by decide⟩
theorem wk_X5_refusedBeard : Cond.code yX5_refusedBeard cX5_refusedBeard 2 (some .int) ∈ sw_tbl := sw_mem (List.mem_append_right _ (List.mem_append_right _ (List.mem_append_right _ (List.mem_append_left _ (List.mem_of_getElem? (i := 152) rfl))))) rfl
theorem wt_X5_refusedBeard : Cond.instanceMethod yX5_refusedBeard ∈ sw_tbl := sw_mem (List.mem_append_right _ (List.mem_append_right _ (List.mem_append_right _ (List.mem_append_left _ (List.mem_of_getElem? (i := 151) (by decide +kernel)))))) rfl
theorem we_X5_refusedBeard : Cond.selects RX5 yX5_refusedBeard yX5_refusedBeard ∈ sw_tbl := sw_mem (List.mem_append_left _ (List.mem_of_getElem? (i := 14) (by decide +kernel))) rfl
theorem ws_X5_refusedBeard : sw_MV yX5_refusedBeard cX5_refusedBeard 2 (some .int) 1 RX5 := ⟨wk_X5_refusedBeard, wt_X5_refusedBeard, we_X5_refusedBeard, wi_X5, ⟨by decide, by decide, by decide +kernel⟩, by decide⟩
theorem wk_X5_sure : Cond.code yX5_sure cX5_sure 3 (some .int) ∈ sw_tbl := sw_mem (List.mem_append_right _ (List.mem_append_right _ (List.mem_append_right _ (List.mem_append_left _ (List.mem_of_getElem? (i := 148) rfl))))) rfl
theorem wt_X5_sure : Cond.instanceMethod yX5_sure ∈ sw_tbl := sw_mem (List.mem_append_right _ (List.mem_append_right _ (List.mem_append_right _ (List.mem_append_left _ (List.mem_of_getElem? (i := 146) (by decide +kernel)))))) rfl
theorem we_X5_sure : Cond.selects RX5 yX5_sure yX5_sure ∈ sw_tbl := sw_mem (List.mem_append_right _ (List.mem_append_right _ (List.mem_append_right _ (List.mem_append_left _ (List.mem_of_getElem? (i := 147) (by decide +kernel)))))) rfl
theorem ws_X5_sure : sw_MV yX5_sure cX5_sure 3 (some .int) 1 RX5 := ⟨wk_X5_sure, wt_X5_sure, we_X5_sure, wi_X5, ⟨by decide, by decide, by decide +kernel⟩, by decide⟩
theorem wk_X5_ask : Cond.code yX5_ask cX5_ask 8 (some .int) ∈ sw_tbl := sw_mem (List.mem_append_right _ (List.mem_append_right _ (List.mem_append_right _ (List.mem_append_left _ (List.mem_of_getElem? (i := 157) rfl))))) rfl
theorem wt_X5_ask : Cond.instanceMethod yX5_ask ∈ sw_tbl := sw_mem (List.mem_append_right _ (List.mem_append_right _ (List.mem_append_right _ (List.mem_append_left _ (List.mem_of_getElem? (i := 155) (by decide +kernel)))))) rfl
theorem we_X5_ask : Cond.selects RX5 yX5_ask yX5_ask ∈ sw_tbl := sw_mem (List.mem_append_right _ (List.mem_append_right _ (List.mem_append_right _ (List.mem_append_left _ (List.mem_of_getElem? (i := 156) (by decide +kernel)))))) rfl
theorem ws_X5_ask : sw_MV yX5_ask cX5_ask 8 (some .int) 1 RX5 := ⟨wk_X5_ask, wt_X5_ask, we_X5_ask, wi_X5, ⟨by decide, by decide, by decide +kernel⟩, by decide⟩
theorem wk_X5_came : Cond.code yX5_came cX5_came 3 (some .int) ∈ sw_tbl := sw_mem (List.mem_append_right _ (List.mem_append_right _ (List.mem_append_right _ (List.mem_append_left _ (List.mem_of_getElem? (i := 162) rfl))))) rfl
theorem wt_X5_came : Cond.instanceMethod yX5_came ∈ sw_tbl := sw_mem (List.mem_append_right _ (List.mem_append_right _ (List.mem_append_right _ (List.mem_append_left _ (List.mem_of_getElem? (i := 160) (by decide +kernel)))))) rfl
theorem we_X5_came : Cond.selects RX5 yX5_came yX5_came ∈ sw_tbl := sw_mem (List.mem_append_right _ (List.mem_append_right _ (List.mem_append_right _ (List.mem_append_left _ (List.mem_of_getElem? (i := 161) (by decide +kernel)))))) rfl
theorem ws_X5_came : sw_MV yX5_came cX5_came 3 (some .int) 1 RX5 := ⟨wk_X5_came, wt_X5_came, we_X5_came, wi_X5, ⟨by decide, by decide, by decide +kernel⟩, by decide⟩
theorem wk_X5_duelFrom : Cond.code yX5_duelFrom cX5_duelFrom 10 (some .int) ∈ sw_tbl := sw_mem (List.mem_append_right _ (List.mem_append_right _ (List.mem_append_right _ (List.mem_append_left _ (List.mem_of_getElem? (i := 169) rfl))))) rfl
theorem wt_X5_duelFrom : Cond.static yX5_duelFrom ∈ sw_tbl := sw_mem (List.mem_append_right _ (List.mem_append_right _ (List.mem_append_right _ (List.mem_append_left _ (List.mem_of_getElem? (i := 168) (by decide +kernel)))))) rfl
theorem ws_X5_duelFrom : sw_MS yX5_duelFrom cX5_duelFrom 10 (some .int) 5 := ⟨wk_X5_duelFrom, wt_X5_duelFrom, wi_X5, ⟨by decide, by decide, by decide +kernel⟩, by decide⟩
theorem wk_X5_duel : Cond.code yX5_duel cX5_duel 2 (some .int) ∈ sw_tbl := sw_mem (List.mem_append_right _ (List.mem_append_right _ (List.mem_append_right _ (List.mem_append_left _ (List.mem_of_getElem? (i := 166) rfl))))) rfl
theorem wt_X5_duel : Cond.instanceMethod yX5_duel ∈ sw_tbl := sw_mem (List.mem_append_right _ (List.mem_append_right _ (List.mem_append_right _ (List.mem_append_left _ (List.mem_of_getElem? (i := 164) (by decide +kernel)))))) rfl
theorem we_X5_duel : Cond.selects RX5 yX5_duel yX5_duel ∈ sw_tbl := sw_mem (List.mem_append_right _ (List.mem_append_right _ (List.mem_append_right _ (List.mem_append_left _ (List.mem_of_getElem? (i := 165) (by decide +kernel)))))) rfl
theorem ws_X5_duel : sw_MV yX5_duel cX5_duel 2 (some .int) 1 RX5 := ⟨wk_X5_duel, wt_X5_duel, we_X5_duel, wi_X5, ⟨by decide, by decide, by decide +kernel⟩, by decide⟩
theorem wk_X5_shut : Cond.code yX5_shut cX5_shut 4 (some .int) ∈ sw_tbl := sw_mem (List.mem_append_right _ (List.mem_append_right _ (List.mem_append_right _ (List.mem_append_left _ (List.mem_of_getElem? (i := 174) rfl))))) rfl
theorem wt_X5_shut : Cond.instanceMethod yX5_shut ∈ sw_tbl := sw_mem (List.mem_append_right _ (List.mem_append_right _ (List.mem_append_right _ (List.mem_append_left _ (List.mem_of_getElem? (i := 172) (by decide +kernel)))))) rfl
theorem we_X5_shut : Cond.selects RX5 yX5_shut yX5_shut ∈ sw_tbl := sw_mem (List.mem_append_right _ (List.mem_append_right _ (List.mem_append_right _ (List.mem_append_left _ (List.mem_of_getElem? (i := 173) (by decide +kernel)))))) rfl
theorem ws_X5_shut : sw_MV yX5_shut cX5_shut 4 (some .int) 1 RX5 := ⟨wk_X5_shut, wt_X5_shut, we_X5_shut, wi_X5, ⟨by decide, by decide, by decide +kernel⟩, by decide⟩
theorem wk_X5_meets : Cond.code yX5_meets cX5_meets 5 (some .int) ∈ sw_tbl := sw_mem (List.mem_append_right _ (List.mem_append_right _ (List.mem_append_right _ (List.mem_append_left _ (List.mem_of_getElem? (i := 178) rfl))))) rfl
theorem wt_X5_meets : Cond.instanceMethod yX5_meets ∈ sw_tbl := sw_mem (List.mem_append_right _ (List.mem_append_right _ (List.mem_append_right _ (List.mem_append_left _ (List.mem_of_getElem? (i := 176) (by decide +kernel)))))) rfl
theorem we_X5_meets : Cond.selects RX5 yX5_meets yX5_meets ∈ sw_tbl := sw_mem (List.mem_append_right _ (List.mem_append_right _ (List.mem_append_right _ (List.mem_append_left _ (List.mem_of_getElem? (i := 177) (by decide +kernel)))))) rfl
theorem ws_X5_meets : sw_MV yX5_meets cX5_meets 5 (some .int) 1 RX5 := ⟨wk_X5_meets, wt_X5_meets, we_X5_meets, wi_X5, ⟨by decide, by decide, by decide +kernel⟩, by decide⟩
theorem wk_X5_firstFalsePair : Cond.code yX5_firstFalsePair cX5_firstFalsePair 7 (some .int) ∈ sw_tbl := sw_mem (List.mem_append_right _ (List.mem_append_right _ (List.mem_append_right _ (List.mem_append_left _ (List.mem_of_getElem? (i := 186) rfl))))) rfl
theorem wt_X5_firstFalsePair : Cond.instanceMethod yX5_firstFalsePair ∈ sw_tbl := sw_mem (List.mem_append_right _ (List.mem_append_right _ (List.mem_append_right _ (List.mem_append_left _ (List.mem_of_getElem? (i := 185) (by decide +kernel)))))) rfl
theorem we_X5_firstFalsePair : Cond.selects RX5 yX5_firstFalsePair yX5_firstFalsePair ∈ sw_tbl := sw_mem (List.mem_append_left _ (List.mem_of_getElem? (i := 15) (by decide +kernel))) rfl
theorem ws_X5_firstFalsePair : sw_MV yX5_firstFalsePair cX5_firstFalsePair 7 (some .int) 2 RX5 := ⟨wk_X5_firstFalsePair, wt_X5_firstFalsePair, we_X5_firstFalsePair, wi_X5, ⟨by decide, by decide, by decide +kernel⟩, by decide⟩
theorem wk_X5_check : Cond.code yX5_check cX5_check 4 (some .int) ∈ sw_tbl := sw_mem (List.mem_append_right _ (List.mem_append_right _ (List.mem_append_right _ (List.mem_append_left _ (List.mem_of_getElem? (i := 182) rfl))))) rfl
theorem wt_X5_check : Cond.instanceMethod yX5_check ∈ sw_tbl := sw_mem (List.mem_append_right _ (List.mem_append_right _ (List.mem_append_right _ (List.mem_append_left _ (List.mem_of_getElem? (i := 180) (by decide +kernel)))))) rfl
theorem we_X5_check : Cond.selects RX5 yX5_check yX5_check ∈ sw_tbl := sw_mem (List.mem_append_right _ (List.mem_append_right _ (List.mem_append_right _ (List.mem_append_left _ (List.mem_of_getElem? (i := 181) (by decide +kernel)))))) rfl
theorem ws_X5_check : sw_MV yX5_check cX5_check 4 (some .int) 1 RX5 := ⟨wk_X5_check, wt_X5_check, we_X5_check, wi_X5, ⟨by decide, by decide, by decide +kernel⟩, by decide⟩
theorem wk_X5_isTwelfth : Cond.code yX5_isTwelfth cX5_isTwelfth 1 (some .boolean) ∈ sw_tbl := sw_mem (List.mem_append_right _ (List.mem_append_right _ (List.mem_append_right _ (List.mem_append_left _ (List.mem_of_getElem? (i := 193) rfl))))) rfl
theorem wt_X5_isTwelfth : Cond.static yX5_isTwelfth ∈ sw_tbl := sw_mem (List.mem_append_right _ (List.mem_append_right _ (List.mem_append_right _ (List.mem_append_left _ (List.mem_of_getElem? (i := 192) (by decide +kernel)))))) rfl
theorem ws_X5_isTwelfth : sw_MS yX5_isTwelfth cX5_isTwelfth 1 (some .boolean) 1 := ⟨wk_X5_isTwelfth, wt_X5_isTwelfth, wi_X5, ⟨by decide, by decide, by decide +kernel⟩, by decide⟩
theorem wk_X5_odds : Cond.code yX5_odds cX5_odds 6 (some .int) ∈ sw_tbl := sw_mem (List.mem_append_right _ (List.mem_append_right _ (List.mem_append_right _ (List.mem_append_left _ (List.mem_of_getElem? (i := 190) rfl))))) rfl
theorem wt_X5_odds : Cond.instanceMethod yX5_odds ∈ sw_tbl := sw_mem (List.mem_append_right _ (List.mem_append_right _ (List.mem_append_right _ (List.mem_append_left _ (List.mem_of_getElem? (i := 188) (by decide +kernel)))))) rfl
theorem we_X5_odds : Cond.selects RX5 yX5_odds yX5_odds ∈ sw_tbl := sw_mem (List.mem_append_right _ (List.mem_append_right _ (List.mem_append_right _ (List.mem_append_left _ (List.mem_of_getElem? (i := 189) (by decide +kernel)))))) rfl
theorem ws_X5_odds : sw_MV yX5_odds cX5_odds 6 (some .int) 2 RX5 := ⟨wk_X5_odds, wt_X5_odds, we_X5_odds, wi_X5, ⟨by decide, by decide, by decide +kernel⟩, by decide⟩
theorem wk_X5_mid : Cond.code yX5_mid cX5_mid 5 (some .int) ∈ sw_tbl := sw_mem (List.mem_append_right _ (List.mem_append_right _ (List.mem_append_right _ (List.mem_append_left _ (List.mem_of_getElem? (i := 206) rfl))))) rfl
theorem wt_X5_mid : Cond.instanceMethod yX5_mid ∈ sw_tbl := sw_mem (List.mem_append_right _ (List.mem_append_right _ (List.mem_append_right _ (List.mem_append_left _ (List.mem_of_getElem? (i := 204) (by decide +kernel)))))) rfl
theorem we_X5_mid : Cond.selects RX5 yX5_mid yX5_mid ∈ sw_tbl := sw_mem (List.mem_append_right _ (List.mem_append_right _ (List.mem_append_right _ (List.mem_append_left _ (List.mem_of_getElem? (i := 205) (by decide +kernel)))))) rfl
theorem ws_X5_mid : sw_MV yX5_mid cX5_mid 5 (some .int) 1 RX5 := ⟨wk_X5_mid, wt_X5_mid, we_X5_mid, wi_X5, ⟨by decide, by decide, by decide +kernel⟩, by decide⟩
theorem wk_X5_noteLot : Cond.code yX5_noteLot cX5_noteLot 4 none ∈ sw_tbl := sw_mem (List.mem_append_right _ (List.mem_append_right _ (List.mem_append_right _ (List.mem_append_left _ (List.mem_of_getElem? (i := 216) rfl))))) rfl
theorem wt_X5_noteLot : Cond.instanceMethod yX5_noteLot ∈ sw_tbl := sw_mem (List.mem_append_right _ (List.mem_append_right _ (List.mem_append_right _ (List.mem_append_left _ (List.mem_of_getElem? (i := 215) (by decide +kernel)))))) rfl
theorem we_X5_noteLot : Cond.selects RX5 yX5_noteLot yX5_noteLot ∈ sw_tbl := sw_mem (List.mem_append_left _ (List.mem_of_getElem? (i := 16) (by decide +kernel))) rfl
theorem ws_X5_noteLot : sw_MV yX5_noteLot cX5_noteLot 4 none 1 RX5 := ⟨wk_X5_noteLot, wt_X5_noteLot, we_X5_noteLot, wi_X5, ⟨by decide, by decide, by decide +kernel⟩, by decide⟩
theorem wk_X5_lots : Cond.code yX5_lots cX5_lots 6 (some .int) ∈ sw_tbl := sw_mem (List.mem_append_right _ (List.mem_append_right _ (List.mem_append_right _ (List.mem_append_left _ (List.mem_of_getElem? (i := 210) rfl))))) rfl
theorem wt_X5_lots : Cond.instanceMethod yX5_lots ∈ sw_tbl := sw_mem (List.mem_append_right _ (List.mem_append_right _ (List.mem_append_right _ (List.mem_append_left _ (List.mem_of_getElem? (i := 208) (by decide +kernel)))))) rfl
theorem we_X5_lots : Cond.selects RX5 yX5_lots yX5_lots ∈ sw_tbl := sw_mem (List.mem_append_right _ (List.mem_append_right _ (List.mem_append_right _ (List.mem_append_left _ (List.mem_of_getElem? (i := 209) (by decide +kernel)))))) rfl
theorem ws_X5_lots : sw_MV yX5_lots cX5_lots 6 (some .int) 2 RX5 := ⟨wk_X5_lots, wt_X5_lots, we_X5_lots, wi_X5, ⟨by decide, by decide, by decide +kernel⟩, by decide⟩
theorem wk_X5_asked : Cond.code yX5_asked cX5_asked 1 (some .int) ∈ sw_tbl := sw_mem (List.mem_append_right _ (List.mem_append_right _ (List.mem_append_right _ (List.mem_append_left _ (List.mem_of_getElem? (i := 222) rfl))))) rfl
theorem wt_X5_asked : Cond.instanceMethod yX5_asked ∈ sw_tbl := sw_mem (List.mem_append_right _ (List.mem_append_right _ (List.mem_append_right _ (List.mem_append_left _ (List.mem_of_getElem? (i := 220) (by decide +kernel)))))) rfl
theorem we_X5_asked : Cond.selects RX5 yX5_asked yX5_asked ∈ sw_tbl := sw_mem (List.mem_append_right _ (List.mem_append_right _ (List.mem_append_right _ (List.mem_append_left _ (List.mem_of_getElem? (i := 221) (by decide +kernel)))))) rfl
theorem ws_X5_asked : sw_MV yX5_asked cX5_asked 1 (some .int) 0 RX5 := ⟨wk_X5_asked, wt_X5_asked, we_X5_asked, wi_X5, ⟨by decide, by decide, by decide +kernel⟩, by decide⟩
theorem wk_X5_upper : Cond.code yX5_upper cX5_upper 1 (some .long) ∈ sw_tbl := sw_mem (List.mem_append_right _ (List.mem_append_right _ (List.mem_append_right _ (List.mem_append_left _ (List.mem_of_getElem? (i := 226) rfl))))) rfl
theorem wt_X5_upper : Cond.instanceMethod yX5_upper ∈ sw_tbl := sw_mem (List.mem_append_right _ (List.mem_append_right _ (List.mem_append_right _ (List.mem_append_left _ (List.mem_of_getElem? (i := 224) (by decide +kernel)))))) rfl
theorem we_X5_upper : Cond.selects RX5 yX5_upper yX5_upper ∈ sw_tbl := sw_mem (List.mem_append_right _ (List.mem_append_right _ (List.mem_append_right _ (List.mem_append_left _ (List.mem_of_getElem? (i := 225) (by decide +kernel)))))) rfl
theorem ws_X5_upper : sw_MV yX5_upper cX5_upper 1 (some .long) 0 RX5 := ⟨wk_X5_upper, wt_X5_upper, we_X5_upper, wi_X5, ⟨by decide, by decide, by decide +kernel⟩, by decide⟩
theorem wk_X5_lower : Cond.code yX5_lower cX5_lower 1 (some .long) ∈ sw_tbl := sw_mem (List.mem_append_right _ (List.mem_append_right _ (List.mem_append_right _ (List.mem_append_left _ (List.mem_of_getElem? (i := 230) rfl))))) rfl
theorem wt_X5_lower : Cond.instanceMethod yX5_lower ∈ sw_tbl := sw_mem (List.mem_append_right _ (List.mem_append_right _ (List.mem_append_right _ (List.mem_append_left _ (List.mem_of_getElem? (i := 228) (by decide +kernel)))))) rfl
theorem we_X5_lower : Cond.selects RX5 yX5_lower yX5_lower ∈ sw_tbl := sw_mem (List.mem_append_right _ (List.mem_append_right _ (List.mem_append_right _ (List.mem_append_left _ (List.mem_of_getElem? (i := 229) (by decide +kernel)))))) rfl
theorem ws_X5_lower : sw_MV yX5_lower cX5_lower 1 (some .long) 0 RX5 := ⟨wk_X5_lower, wt_X5_lower, we_X5_lower, wi_X5, ⟨by decide, by decide, by decide +kernel⟩, by decide⟩
theorem wk_X5_thoseKept : Cond.code yX5_thoseKept cX5_thoseKept 6 (some .int) ∈ sw_tbl := sw_mem (List.mem_append_right _ (List.mem_append_right _ (List.mem_append_right _ (List.mem_append_right _ (List.mem_append_left _ (List.mem_of_getElem? (i := 2) rfl)))))) rfl
theorem wt_X5_thoseKept : Cond.instanceMethod yX5_thoseKept ∈ sw_tbl := sw_mem (List.mem_append_right _ (List.mem_append_right _ (List.mem_append_right _ (List.mem_append_right _ (List.mem_append_left _ (List.mem_of_getElem? (i := 1) (by decide +kernel))))))) rfl
theorem we_X5_thoseKept : Cond.selects RX5 yX5_thoseKept yX5_thoseKept ∈ sw_tbl := sw_mem (List.mem_append_left _ (List.mem_of_getElem? (i := 17) (by decide +kernel))) rfl
theorem ws_X5_thoseKept : sw_MV yX5_thoseKept cX5_thoseKept 6 (some .int) 0 RX5 := ⟨wk_X5_thoseKept, wt_X5_thoseKept, we_X5_thoseKept, wi_X5, ⟨by decide, by decide, by decide +kernel⟩, by decide⟩
theorem wk_X5_thoseThere : Cond.code yX5_thoseThere cX5_thoseThere 6 (some .int) ∈ sw_tbl := sw_mem (List.mem_append_right _ (List.mem_append_right _ (List.mem_append_right _ (List.mem_append_left _ (List.mem_of_getElem? (i := 238) rfl))))) rfl
theorem wt_X5_thoseThere : Cond.static yX5_thoseThere ∈ sw_tbl := sw_mem (List.mem_append_right _ (List.mem_append_right _ (List.mem_append_right _ (List.mem_append_left _ (List.mem_of_getElem? (i := 237) (by decide +kernel)))))) rfl
theorem ws_X5_thoseThere : sw_MS yX5_thoseThere cX5_thoseThere 6 (some .int) 1 := ⟨wk_X5_thoseThere, wt_X5_thoseThere, wi_X5, ⟨by decide, by decide, by decide +kernel⟩, by decide⟩
theorem wk_X5_count : Cond.code yX5_count cX5_count 2 (some .int) ∈ sw_tbl := sw_mem (List.mem_append_right _ (List.mem_append_right _ (List.mem_append_right _ (List.mem_append_left _ (List.mem_of_getElem? (i := 234) rfl))))) rfl
theorem wt_X5_count : Cond.instanceMethod yX5_count ∈ sw_tbl := sw_mem (List.mem_append_right _ (List.mem_append_right _ (List.mem_append_right _ (List.mem_append_left _ (List.mem_of_getElem? (i := 232) (by decide +kernel)))))) rfl
theorem we_X5_count : Cond.selects RX5 yX5_count yX5_count ∈ sw_tbl := sw_mem (List.mem_append_right _ (List.mem_append_right _ (List.mem_append_right _ (List.mem_append_left _ (List.mem_of_getElem? (i := 233) (by decide +kernel)))))) rfl
theorem ws_X5_count : sw_MV yX5_count cX5_count 2 (some .int) 1 RX5 := ⟨wk_X5_count, wt_X5_count, we_X5_count, wi_X5, ⟨by decide, by decide, by decide +kernel⟩, by decide⟩
theorem wk_X5_finding : Cond.code yX5_finding cX5_finding 1 (some .int) ∈ sw_tbl := sw_mem (List.mem_append_right _ (List.mem_append_right _ (List.mem_append_right _ (List.mem_append_right _ (List.mem_append_left _ (List.mem_of_getElem? (i := 6) rfl)))))) rfl
theorem wt_X5_finding : Cond.instanceMethod yX5_finding ∈ sw_tbl := sw_mem (List.mem_append_right _ (List.mem_append_right _ (List.mem_append_right _ (List.mem_append_right _ (List.mem_append_left _ (List.mem_of_getElem? (i := 4) (by decide +kernel))))))) rfl
theorem we_X5_finding : Cond.selects RX5 yX5_finding yX5_finding ∈ sw_tbl := sw_mem (List.mem_append_right _ (List.mem_append_right _ (List.mem_append_right _ (List.mem_append_right _ (List.mem_append_left _ (List.mem_of_getElem? (i := 5) (by decide +kernel))))))) rfl
theorem ws_X5_finding : sw_MV yX5_finding cX5_finding 1 (some .int) 0 RX5 := ⟨wk_X5_finding, wt_X5_finding, we_X5_finding, wi_X5, ⟨by decide, by decide, by decide +kernel⟩, by decide⟩
theorem wk_X5_findings : Cond.code yX5_findings cX5_findings 2 (some .int) ∈ sw_tbl := sw_mem (List.mem_append_right _ (List.mem_append_right _ (List.mem_append_right _ (List.mem_append_right _ (List.mem_append_left _ (List.mem_of_getElem? (i := 10) rfl)))))) rfl
theorem wt_X5_findings : Cond.instanceMethod yX5_findings ∈ sw_tbl := sw_mem (List.mem_append_right _ (List.mem_append_right _ (List.mem_append_right _ (List.mem_append_right _ (List.mem_append_left _ (List.mem_of_getElem? (i := 8) (by decide +kernel))))))) rfl
theorem we_X5_findings : Cond.selects RX5 yX5_findings yX5_findings ∈ sw_tbl := sw_mem (List.mem_append_right _ (List.mem_append_right _ (List.mem_append_right _ (List.mem_append_right _ (List.mem_append_left _ (List.mem_of_getElem? (i := 9) (by decide +kernel))))))) rfl
theorem ws_X5_findings : sw_MV yX5_findings cX5_findings 2 (some .int) 1 RX5 := ⟨wk_X5_findings, wt_X5_findings, we_X5_findings, wi_X5, ⟨by decide, by decide, by decide +kernel⟩, by decide⟩
theorem wk_X5_digest : Cond.code yX5_digest cX5_digest 5 (some .long) ∈ sw_tbl := sw_mem (List.mem_append_right _ (List.mem_append_right _ (List.mem_append_right _ (List.mem_append_right _ (List.mem_append_left _ (List.mem_of_getElem? (i := 14) rfl)))))) rfl
theorem wt_X5_digest : Cond.instanceMethod yX5_digest ∈ sw_tbl := sw_mem (List.mem_append_right _ (List.mem_append_right _ (List.mem_append_right _ (List.mem_append_right _ (List.mem_append_left _ (List.mem_of_getElem? (i := 12) (by decide +kernel))))))) rfl
theorem we_X5_digest : Cond.selects RX5 yX5_digest yX5_digest ∈ sw_tbl := sw_mem (List.mem_append_right _ (List.mem_append_right _ (List.mem_append_right _ (List.mem_append_right _ (List.mem_append_left _ (List.mem_of_getElem? (i := 13) (by decide +kernel))))))) rfl
theorem ws_X5_digest : sw_MV yX5_digest cX5_digest 5 (some .long) 0 RX5 := ⟨wk_X5_digest, wt_X5_digest, we_X5_digest, wi_X5, ⟨by decide, by decide, by decide +kernel⟩, by decide⟩
theorem wk_X6_bits : Cond.code yX6_bits cX6_bits 3 (some .int) ∈ sw_tbl := sw_mem (List.mem_append_right _ (List.mem_append_right _ (List.mem_append_right _ (List.mem_append_right _ (List.mem_append_left _ (List.mem_of_getElem? (i := 235) rfl)))))) rfl
theorem wt_X6_bits : Cond.static yX6_bits ∈ sw_tbl := sw_mem (List.mem_append_right _ (List.mem_append_right _ (List.mem_append_right _ (List.mem_append_right _ (List.mem_append_left _ (List.mem_of_getElem? (i := 234) (by decide +kernel))))))) rfl
theorem ws_X6_bits : sw_MS yX6_bits cX6_bits 3 (some .int) 1 := ⟨wk_X6_bits, wt_X6_bits, wi_X6, ⟨by decide, by decide, by decide +kernel⟩, by decide⟩
theorem wk_X6_in : Cond.code yX6_in cX6_in 6 (some .boolean) ∈ sw_tbl := sw_mem (List.mem_append_right _ (List.mem_append_right _ (List.mem_append_right _ (List.mem_append_right _ (List.mem_append_left _ (List.mem_of_getElem? (i := 122) rfl)))))) rfl
theorem wt_X6_in : Cond.static yX6_in ∈ sw_tbl := sw_mem (List.mem_append_right _ (List.mem_append_right _ (List.mem_append_right _ (List.mem_append_right _ (List.mem_append_left _ (List.mem_of_getElem? (i := 121) (by decide +kernel))))))) rfl
theorem ws_X6_in : sw_MS yX6_in cX6_in 6 (some .boolean) 3 := ⟨wk_X6_in, wt_X6_in, wi_X6, ⟨by decide, by decide, by decide +kernel⟩, by decide⟩
theorem wk_X6_has : Cond.code yX6_has cX6_has 2 (some .boolean) ∈ sw_tbl := sw_mem (List.mem_append_right _ (List.mem_append_right _ (List.mem_append_right _ (List.mem_append_right _ (List.mem_append_left _ (List.mem_of_getElem? (i := 232) rfl)))))) rfl
theorem wt_X6_has : Cond.static yX6_has ∈ sw_tbl := sw_mem (List.mem_append_right _ (List.mem_append_right _ (List.mem_append_right _ (List.mem_append_right _ (List.mem_append_left _ (List.mem_of_getElem? (i := 231) (by decide +kernel))))))) rfl
theorem ws_X6_has : sw_MS yX6_has cX6_has 2 (some .boolean) 2 := ⟨wk_X6_has, wt_X6_has, wi_X6, ⟨by decide, by decide, by decide +kernel⟩, by decide⟩
theorem wk_X6_find : Cond.code yX6_find cX6_find 2 (some .int) ∈ sw_tbl := sw_mem (List.mem_append_right _ (List.mem_append_right _ (List.mem_append_right _ (List.mem_append_right _ (List.mem_append_left _ (List.mem_of_getElem? (i := 126) rfl)))))) rfl
theorem wt_X6_find : Cond.instanceMethod yX6_find ∈ sw_tbl := sw_mem (List.mem_append_right _ (List.mem_append_right _ (List.mem_append_right _ (List.mem_append_right _ (List.mem_append_left _ (List.mem_of_getElem? (i := 125) (by decide +kernel))))))) rfl
theorem we_X6_find : Cond.selects RX6 yX6_find yX6_find ∈ sw_tbl := sw_mem (List.mem_append_left _ (List.mem_of_getElem? (i := 18) (by decide +kernel))) rfl
theorem ws_X6_find : sw_MV yX6_find cX6_find 2 (some .int) 1 RX6 := ⟨wk_X6_find, wt_X6_find, we_X6_find, wi_X6, ⟨by decide, by decide, by decide +kernel⟩, by decide⟩
theorem wk_X6_tell : Cond.code yX6_tell cX6_tell 2 (some .int) ∈ sw_tbl := sw_mem (List.mem_append_right _ (List.mem_append_right _ (List.mem_append_right _ (List.mem_append_right _ (List.mem_append_left _ (List.mem_of_getElem? (i := 142) rfl)))))) rfl
theorem wt_X6_tell : Cond.instanceMethod yX6_tell ∈ sw_tbl := sw_mem (List.mem_append_right _ (List.mem_append_right _ (List.mem_append_right _ (List.mem_append_right _ (List.mem_append_left _ (List.mem_of_getElem? (i := 141) (by decide +kernel))))))) rfl
theorem we_X6_tell : Cond.selects RX6 yX6_tell yX6_tell ∈ sw_tbl := sw_mem (List.mem_append_left _ (List.mem_of_getElem? (i := 21) (by decide +kernel))) rfl
theorem ws_X6_tell : sw_MV yX6_tell cX6_tell 2 (some .int) 1 RX6 := ⟨wk_X6_tell, wt_X6_tell, we_X6_tell, wi_X6, ⟨by decide, by decide, by decide +kernel⟩, by decide⟩
theorem wk_X6_isRow : Cond.code yX6_isRow cX6_isRow 1 (some .boolean) ∈ sw_tbl := sw_mem (List.mem_append_right _ (List.mem_append_right _ (List.mem_append_right _ (List.mem_append_right _ (List.mem_append_left _ (List.mem_of_getElem? (i := 118) rfl)))))) rfl
theorem wt_X6_isRow : Cond.static yX6_isRow ∈ sw_tbl := sw_mem (List.mem_append_right _ (List.mem_append_right _ (List.mem_append_right _ (List.mem_append_right _ (List.mem_append_left _ (List.mem_of_getElem? (i := 117) (by decide +kernel))))))) rfl
theorem ws_X6_isRow : sw_MS yX6_isRow cX6_isRow 1 (some .boolean) 1 := ⟨wk_X6_isRow, wt_X6_isRow, wi_X6, ⟨by decide, by decide, by decide +kernel⟩, by decide⟩
theorem wk_X6_isText : Cond.code yX6_isText cX6_isText 1 (some .boolean) ∈ sw_tbl := sw_mem (List.mem_append_right _ (List.mem_append_right _ (List.mem_append_right _ (List.mem_append_right _ (List.mem_append_left _ (List.mem_of_getElem? (i := 169) rfl)))))) rfl
theorem wt_X6_isText : Cond.static yX6_isText ∈ sw_tbl := sw_mem (List.mem_append_right _ (List.mem_append_right _ (List.mem_append_right _ (List.mem_append_right _ (List.mem_append_left _ (List.mem_of_getElem? (i := 168) (by decide +kernel))))))) rfl
theorem ws_X6_isText : sw_MS yX6_isText cX6_isText 1 (some .boolean) 1 := ⟨wk_X6_isText, wt_X6_isText, wi_X6, ⟨by decide, by decide, by decide +kernel⟩, by decide⟩
theorem wk_X6_makeRow : Cond.code yX6_makeRow cX6_makeRow 4 none ∈ sw_tbl := sw_mem (List.mem_append_right _ (List.mem_append_right _ (List.mem_append_right _ (List.mem_append_right _ (List.mem_append_left _ (List.mem_of_getElem? (i := 130) rfl)))))) rfl
theorem wt_X6_makeRow : Cond.instanceMethod yX6_makeRow ∈ sw_tbl := sw_mem (List.mem_append_right _ (List.mem_append_right _ (List.mem_append_right _ (List.mem_append_right _ (List.mem_append_left _ (List.mem_of_getElem? (i := 129) (by decide +kernel))))))) rfl
theorem we_X6_makeRow : Cond.selects RX6 yX6_makeRow yX6_makeRow ∈ sw_tbl := sw_mem (List.mem_append_left _ (List.mem_of_getElem? (i := 19) (by decide +kernel))) rfl
theorem ws_X6_makeRow : sw_MV yX6_makeRow cX6_makeRow 4 none 2 RX6 := ⟨wk_X6_makeRow, wt_X6_makeRow, we_X6_makeRow, wi_X6, ⟨by decide, by decide, by decide +kernel⟩, by decide⟩
theorem wk_X6_row : Cond.code yX6_row cX6_row 3 (some .int) ∈ sw_tbl := sw_mem (List.mem_append_right _ (List.mem_append_right _ (List.mem_append_right _ (List.mem_append_right _ (List.mem_append_left _ (List.mem_of_getElem? (i := 115) rfl)))))) rfl
theorem wt_X6_row : Cond.instanceMethod yX6_row ∈ sw_tbl := sw_mem (List.mem_append_right _ (List.mem_append_right _ (List.mem_append_right _ (List.mem_append_right _ (List.mem_append_left _ (List.mem_of_getElem? (i := 113) (by decide +kernel))))))) rfl
theorem we_X6_row : Cond.selects RX6 yX6_row yX6_row ∈ sw_tbl := sw_mem (List.mem_append_right _ (List.mem_append_right _ (List.mem_append_right _ (List.mem_append_right _ (List.mem_append_left _ (List.mem_of_getElem? (i := 114) (by decide +kernel))))))) rfl
theorem ws_X6_row : sw_MV yX6_row cX6_row 3 (some .int) 2 RX6 := ⟨wk_X6_row, wt_X6_row, we_X6_row, wi_X6, ⟨by decide, by decide, by decide +kernel⟩, by decide⟩
theorem wk_X6_refused : Cond.code yX6_refused cX6_refused 3 (some .int) ∈ sw_tbl := sw_mem (List.mem_append_right _ (List.mem_append_right _ (List.mem_append_right _ (List.mem_append_right _ (List.mem_append_left _ (List.mem_of_getElem? (i := 138) rfl)))))) rfl
theorem wt_X6_refused : Cond.instanceMethod yX6_refused ∈ sw_tbl := sw_mem (List.mem_append_right _ (List.mem_append_right _ (List.mem_append_right _ (List.mem_append_right _ (List.mem_append_left _ (List.mem_of_getElem? (i := 137) (by decide +kernel))))))) rfl
theorem we_X6_refused : Cond.selects RX6 yX6_refused yX6_refused ∈ sw_tbl := sw_mem (List.mem_append_left _ (List.mem_of_getElem? (i := 20) (by decide +kernel))) rfl
theorem ws_X6_refused : sw_MV yX6_refused cX6_refused 3 (some .int) 2 RX6 := ⟨wk_X6_refused, wt_X6_refused, we_X6_refused, wi_X6, ⟨by decide, by decide, by decide +kernel⟩, by decide⟩
theorem wk_X6_lay : Cond.code yX6_lay cX6_lay 6 (some .int) ∈ sw_tbl := sw_mem (List.mem_append_right _ (List.mem_append_right _ (List.mem_append_right _ (List.mem_append_right _ (List.mem_append_left _ (List.mem_of_getElem? (i := 134) rfl)))))) rfl
theorem wt_X6_lay : Cond.instanceMethod yX6_lay ∈ sw_tbl := sw_mem (List.mem_append_right _ (List.mem_append_right _ (List.mem_append_right _ (List.mem_append_right _ (List.mem_append_left _ (List.mem_of_getElem? (i := 132) (by decide +kernel))))))) rfl
theorem we_X6_lay : Cond.selects RX6 yX6_lay yX6_lay ∈ sw_tbl := sw_mem (List.mem_append_right _ (List.mem_append_right _ (List.mem_append_right _ (List.mem_append_right _ (List.mem_append_left _ (List.mem_of_getElem? (i := 133) (by decide +kernel))))))) rfl
theorem ws_X6_lay : sw_MV yX6_lay cX6_lay 6 (some .int) 3 RX6 := ⟨wk_X6_lay, wt_X6_lay, we_X6_lay, wi_X6, ⟨by decide, by decide, by decide +kernel⟩, by decide⟩
theorem wk_X6_at : Cond.code yX6_at cX6_at 4 (some .int) ∈ sw_tbl := sw_mem (List.mem_append_right _ (List.mem_append_right _ (List.mem_append_right _ (List.mem_append_right _ (List.mem_append_left _ (List.mem_of_getElem? (i := 146) rfl)))))) rfl
theorem wt_X6_at : Cond.instanceMethod yX6_at ∈ sw_tbl := sw_mem (List.mem_append_right _ (List.mem_append_right _ (List.mem_append_right _ (List.mem_append_right _ (List.mem_append_left _ (List.mem_of_getElem? (i := 144) (by decide +kernel))))))) rfl
theorem we_X6_at : Cond.selects RX6 yX6_at yX6_at ∈ sw_tbl := sw_mem (List.mem_append_right _ (List.mem_append_right _ (List.mem_append_right _ (List.mem_append_right _ (List.mem_append_left _ (List.mem_of_getElem? (i := 145) (by decide +kernel))))))) rfl
theorem ws_X6_at : sw_MV yX6_at cX6_at 4 (some .int) 2 RX6 := ⟨wk_X6_at, wt_X6_at, we_X6_at, wi_X6, ⟨by decide, by decide, by decide +kernel⟩, by decide⟩
theorem wk_X6_tear : Cond.code yX6_tear cX6_tear 2 (some .int) ∈ sw_tbl := sw_mem (List.mem_append_right _ (List.mem_append_right _ (List.mem_append_right _ (List.mem_append_right _ (List.mem_append_left _ (List.mem_of_getElem? (i := 150) rfl)))))) rfl
theorem wt_X6_tear : Cond.instanceMethod yX6_tear ∈ sw_tbl := sw_mem (List.mem_append_right _ (List.mem_append_right _ (List.mem_append_right _ (List.mem_append_right _ (List.mem_append_left _ (List.mem_of_getElem? (i := 148) (by decide +kernel))))))) rfl
theorem we_X6_tear : Cond.selects RX6 yX6_tear yX6_tear ∈ sw_tbl := sw_mem (List.mem_append_right _ (List.mem_append_right _ (List.mem_append_right _ (List.mem_append_right _ (List.mem_append_left _ (List.mem_of_getElem? (i := 149) (by decide +kernel))))))) rfl
theorem ws_X6_tear : sw_MV yX6_tear cX6_tear 2 (some .int) 1 RX6 := ⟨wk_X6_tear, wt_X6_tear, we_X6_tear, wi_X6, ⟨by decide, by decide, by decide +kernel⟩, by decide⟩
theorem wk_X6_isSpan : Cond.code yX6_isSpan cX6_isSpan 4 (some .boolean) ∈ sw_tbl := sw_mem (List.mem_append_right _ (List.mem_append_right _ (List.mem_append_right _ (List.mem_append_right _ (List.mem_append_left _ (List.mem_of_getElem? (i := 158) rfl)))))) rfl
theorem wt_X6_isSpan : Cond.instanceMethod yX6_isSpan ∈ sw_tbl := sw_mem (List.mem_append_right _ (List.mem_append_right _ (List.mem_append_right _ (List.mem_append_right _ (List.mem_append_left _ (List.mem_of_getElem? (i := 157) (by decide +kernel))))))) rfl
theorem we_X6_isSpan : Cond.selects RX6 yX6_isSpan yX6_isSpan ∈ sw_tbl := sw_mem (List.mem_append_left _ (List.mem_of_getElem? (i := 22) (by decide +kernel))) rfl
theorem ws_X6_isSpan : sw_MV yX6_isSpan cX6_isSpan 4 (some .boolean) 3 RX6 := ⟨wk_X6_isSpan, wt_X6_isSpan, we_X6_isSpan, wi_X6, ⟨by decide, by decide, by decide +kernel⟩, by decide⟩
theorem wk_X6_copy : Cond.code yX6_copy cX6_copy 9 (some .int) ∈ sw_tbl := sw_mem (List.mem_append_right _ (List.mem_append_right _ (List.mem_append_right _ (List.mem_append_right _ (List.mem_append_left _ (List.mem_of_getElem? (i := 154) rfl)))))) rfl
theorem wt_X6_copy : Cond.instanceMethod yX6_copy ∈ sw_tbl := sw_mem (List.mem_append_right _ (List.mem_append_right _ (List.mem_append_right _ (List.mem_append_right _ (List.mem_append_left _ (List.mem_of_getElem? (i := 152) (by decide +kernel))))))) rfl
theorem we_X6_copy : Cond.selects RX6 yX6_copy yX6_copy ∈ sw_tbl := sw_mem (List.mem_append_right _ (List.mem_append_right _ (List.mem_append_right _ (List.mem_append_right _ (List.mem_append_left _ (List.mem_of_getElem? (i := 153) (by decide +kernel))))))) rfl
theorem ws_X6_copy : sw_MV yX6_copy cX6_copy 9 (some .int) 5 RX6 := ⟨wk_X6_copy, wt_X6_copy, we_X6_copy, wi_X6, ⟨by decide, by decide, by decide +kernel⟩, by decide⟩
theorem wk_X6_mean : Cond.code yX6_mean cX6_mean 5 (some .int) ∈ sw_tbl := sw_mem (List.mem_append_right _ (List.mem_append_right _ (List.mem_append_right _ (List.mem_append_right _ (List.mem_append_left _ (List.mem_of_getElem? (i := 162) rfl)))))) rfl
theorem wt_X6_mean : Cond.instanceMethod yX6_mean ∈ sw_tbl := sw_mem (List.mem_append_right _ (List.mem_append_right _ (List.mem_append_right _ (List.mem_append_right _ (List.mem_append_left _ (List.mem_of_getElem? (i := 160) (by decide +kernel))))))) rfl
theorem we_X6_mean : Cond.selects RX6 yX6_mean yX6_mean ∈ sw_tbl := sw_mem (List.mem_append_right _ (List.mem_append_right _ (List.mem_append_right _ (List.mem_append_right _ (List.mem_append_left _ (List.mem_of_getElem? (i := 161) (by decide +kernel))))))) rfl
theorem ws_X6_mean : sw_MV yX6_mean cX6_mean 5 (some .int) 1 RX6 := ⟨wk_X6_mean, wt_X6_mean, we_X6_mean, wi_X6, ⟨by decide, by decide, by decide +kernel⟩, by decide⟩
theorem wk_X6_text : Cond.code yX6_text cX6_text 4 (some .int) ∈ sw_tbl := sw_mem (List.mem_append_right _ (List.mem_append_right _ (List.mem_append_right _ (List.mem_append_right _ (List.mem_append_left _ (List.mem_of_getElem? (i := 166) rfl)))))) rfl
theorem wt_X6_text : Cond.instanceMethod yX6_text ∈ sw_tbl := sw_mem (List.mem_append_right _ (List.mem_append_right _ (List.mem_append_right _ (List.mem_append_right _ (List.mem_append_left _ (List.mem_of_getElem? (i := 164) (by decide +kernel))))))) rfl
theorem we_X6_text : Cond.selects RX6 yX6_text yX6_text ∈ sw_tbl := sw_mem (List.mem_append_right _ (List.mem_append_right _ (List.mem_append_right _ (List.mem_append_right _ (List.mem_append_left _ (List.mem_of_getElem? (i := 165) (by decide +kernel))))))) rfl
theorem ws_X6_text : sw_MV yX6_text cX6_text 4 (some .int) 2 RX6 := ⟨wk_X6_text, wt_X6_text, we_X6_text, wi_X6, ⟨by decide, by decide, by decide +kernel⟩, by decide⟩
theorem wk_X6_put : Cond.code yX6_put cX6_put 5 (some .int) ∈ sw_tbl := sw_mem (List.mem_append_right _ (List.mem_append_right _ (List.mem_append_right _ (List.mem_append_right _ (List.mem_append_left _ (List.mem_of_getElem? (i := 174) rfl)))))) rfl
theorem wt_X6_put : Cond.instanceMethod yX6_put ∈ sw_tbl := sw_mem (List.mem_append_right _ (List.mem_append_right _ (List.mem_append_right _ (List.mem_append_right _ (List.mem_append_left _ (List.mem_of_getElem? (i := 172) (by decide +kernel))))))) rfl
theorem we_X6_put : Cond.selects RX6 yX6_put yX6_put ∈ sw_tbl := sw_mem (List.mem_append_right _ (List.mem_append_right _ (List.mem_append_right _ (List.mem_append_right _ (List.mem_append_left _ (List.mem_of_getElem? (i := 173) (by decide +kernel))))))) rfl
theorem ws_X6_put : sw_MV yX6_put cX6_put 5 (some .int) 3 RX6 := ⟨wk_X6_put, wt_X6_put, we_X6_put, wi_X6, ⟨by decide, by decide, by decide +kernel⟩, by decide⟩
theorem wk_X6_here : Cond.code yX6_here cX6_here 1 (some .int) ∈ sw_tbl := sw_mem (List.mem_append_right _ (List.mem_append_right _ (List.mem_append_right _ (List.mem_append_right _ (List.mem_append_left _ (List.mem_of_getElem? (i := 194) rfl)))))) rfl
theorem wt_X6_here : Cond.instanceMethod yX6_here ∈ sw_tbl := sw_mem (List.mem_append_right _ (List.mem_append_right _ (List.mem_append_right _ (List.mem_append_right _ (List.mem_append_left _ (List.mem_of_getElem? (i := 193) (by decide +kernel))))))) rfl
theorem we_X6_here : Cond.selects RX6 yX6_here yX6_here ∈ sw_tbl := sw_mem (List.mem_append_left _ (List.mem_of_getElem? (i := 26) (by decide +kernel))) rfl
theorem ws_X6_here : sw_MV yX6_here cX6_here 1 (some .int) 0 RX6 := ⟨wk_X6_here, wt_X6_here, we_X6_here, wi_X6, ⟨by decide, by decide, by decide +kernel⟩, by decide⟩
theorem wk_X6_skip : Cond.code yX6_skip cX6_skip 1 none ∈ sw_tbl := sw_mem (List.mem_append_right _ (List.mem_append_right _ (List.mem_append_right _ (List.mem_append_right _ (List.mem_append_left _ (List.mem_of_getElem? (i := 190) rfl)))))) rfl
theorem wt_X6_skip : Cond.instanceMethod yX6_skip ∈ sw_tbl := sw_mem (List.mem_append_right _ (List.mem_append_right _ (List.mem_append_right _ (List.mem_append_right _ (List.mem_append_left _ (List.mem_of_getElem? (i := 189) (by decide +kernel))))))) rfl
theorem we_X6_skip : Cond.selects RX6 yX6_skip yX6_skip ∈ sw_tbl := sw_mem (List.mem_append_left _ (List.mem_of_getElem? (i := 25) (by decide +kernel))) rfl
theorem ws_X6_skip : sw_MV yX6_skip cX6_skip 1 none 0 RX6 := ⟨wk_X6_skip, wt_X6_skip, we_X6_skip, wi_X6, ⟨by decide, by decide, by decide +kernel⟩, by decide⟩
theorem wk_X6_figure : Cond.code yX6_figure cX6_figure 3 (some .int) ∈ sw_tbl := sw_mem (List.mem_append_right _ (List.mem_append_right _ (List.mem_append_right _ (List.mem_append_right _ (List.mem_append_left _ (List.mem_of_getElem? (i := 198) rfl)))))) rfl
theorem wt_X6_figure : Cond.instanceMethod yX6_figure ∈ sw_tbl := sw_mem (List.mem_append_right _ (List.mem_append_right _ (List.mem_append_right _ (List.mem_append_right _ (List.mem_append_left _ (List.mem_of_getElem? (i := 197) (by decide +kernel))))))) rfl
theorem we_X6_figure : Cond.selects RX6 yX6_figure yX6_figure ∈ sw_tbl := sw_mem (List.mem_append_left _ (List.mem_of_getElem? (i := 27) (by decide +kernel))) rfl
theorem ws_X6_figure : sw_MV yX6_figure cX6_figure 3 (some .int) 2 RX6 := ⟨wk_X6_figure, wt_X6_figure, we_X6_figure, wi_X6, ⟨by decide, by decide, by decide +kernel⟩, by decide⟩
theorem wk_X6_readsSpring : Cond.code yX6_readsSpring cX6_readsSpring 3 (some .boolean) ∈ sw_tbl := sw_mem (List.mem_append_right _ (List.mem_append_right _ (List.mem_append_right _ (List.mem_append_right _ (List.mem_append_left _ (List.mem_of_getElem? (i := 186) rfl)))))) rfl
theorem wt_X6_readsSpring : Cond.instanceMethod yX6_readsSpring ∈ sw_tbl := sw_mem (List.mem_append_right _ (List.mem_append_right _ (List.mem_append_right _ (List.mem_append_right _ (List.mem_append_left _ (List.mem_of_getElem? (i := 185) (by decide +kernel))))))) rfl
theorem we_X6_readsSpring : Cond.selects RX6 yX6_readsSpring yX6_readsSpring ∈ sw_tbl := sw_mem (List.mem_append_left _ (List.mem_of_getElem? (i := 24) (by decide +kernel))) rfl
theorem ws_X6_readsSpring : sw_MV yX6_readsSpring cX6_readsSpring 3 (some .boolean) 0 RX6 := ⟨wk_X6_readsSpring, wt_X6_readsSpring, we_X6_readsSpring, wi_X6, ⟨by decide, by decide, by decide +kernel⟩, by decide⟩
theorem wk_X6_kindOfLetter : Cond.code yX6_kindOfLetter cX6_kindOfLetter 1 (some .int) ∈ sw_tbl := sw_mem (List.mem_append_right _ (List.mem_append_right _ (List.mem_append_right _ (List.mem_append_right _ (List.mem_append_left _ (List.mem_of_getElem? (i := 205) rfl)))))) rfl
theorem wt_X6_kindOfLetter : Cond.static yX6_kindOfLetter ∈ sw_tbl := sw_mem (List.mem_append_right _ (List.mem_append_right _ (List.mem_append_right _ (List.mem_append_right _ (List.mem_append_left _ (List.mem_of_getElem? (i := 204) (by decide +kernel))))))) rfl
theorem ws_X6_kindOfLetter : sw_MS yX6_kindOfLetter cX6_kindOfLetter 1 (some .int) 1 := ⟨wk_X6_kindOfLetter, wt_X6_kindOfLetter, wi_X6, ⟨by decide, by decide, by decide +kernel⟩, by decide⟩
theorem wk_X6_readsStranger : Cond.code yX6_readsStranger cX6_readsStranger 6 (some .boolean) ∈ sw_tbl := sw_mem (List.mem_append_right _ (List.mem_append_right _ (List.mem_append_right _ (List.mem_append_right _ (List.mem_append_left _ (List.mem_of_getElem? (i := 202) rfl)))))) rfl
theorem wt_X6_readsStranger : Cond.instanceMethod yX6_readsStranger ∈ sw_tbl := sw_mem (List.mem_append_right _ (List.mem_append_right _ (List.mem_append_right _ (List.mem_append_right _ (List.mem_append_left _ (List.mem_of_getElem? (i := 201) (by decide +kernel))))))) rfl
theorem we_X6_readsStranger : Cond.selects RX6 yX6_readsStranger yX6_readsStranger ∈ sw_tbl := sw_mem (List.mem_append_left _ (List.mem_of_getElem? (i := 28) (by decide +kernel))) rfl
theorem ws_X6_readsStranger : sw_MV yX6_readsStranger cX6_readsStranger 6 (some .boolean) 0 RX6 := ⟨wk_X6_readsStranger, wt_X6_readsStranger, we_X6_readsStranger, wi_X6, ⟨by decide, by decide, by decide +kernel⟩, by decide⟩
theorem wk_X6_faultOf : Cond.code yX6_faultOf cX6_faultOf 3 (some .int) ∈ sw_tbl := sw_mem (List.mem_append_right _ (List.mem_append_right _ (List.mem_append_right _ (List.mem_append_right _ (List.mem_append_left _ (List.mem_of_getElem? (i := 182) rfl)))))) rfl
theorem wt_X6_faultOf : Cond.instanceMethod yX6_faultOf ∈ sw_tbl := sw_mem (List.mem_append_right _ (List.mem_append_right _ (List.mem_append_right _ (List.mem_append_right _ (List.mem_append_left _ (List.mem_of_getElem? (i := 181) (by decide +kernel))))))) rfl
theorem we_X6_faultOf : Cond.selects RX6 yX6_faultOf yX6_faultOf ∈ sw_tbl := sw_mem (List.mem_append_left _ (List.mem_of_getElem? (i := 23) (by decide +kernel))) rfl
theorem ws_X6_faultOf : sw_MV yX6_faultOf cX6_faultOf 3 (some .int) 1 RX6 := ⟨wk_X6_faultOf, wt_X6_faultOf, we_X6_faultOf, wi_X6, ⟨by decide, by decide, by decide +kernel⟩, by decide⟩
theorem wk_X6_fault : Cond.code yX6_fault cX6_fault 2 (some .int) ∈ sw_tbl := sw_mem (List.mem_append_right _ (List.mem_append_right _ (List.mem_append_right _ (List.mem_append_right _ (List.mem_append_left _ (List.mem_of_getElem? (i := 178) rfl)))))) rfl
theorem wt_X6_fault : Cond.instanceMethod yX6_fault ∈ sw_tbl := sw_mem (List.mem_append_right _ (List.mem_append_right _ (List.mem_append_right _ (List.mem_append_right _ (List.mem_append_left _ (List.mem_of_getElem? (i := 176) (by decide +kernel))))))) rfl
theorem we_X6_fault : Cond.selects RX6 yX6_fault yX6_fault ∈ sw_tbl := sw_mem (List.mem_append_right _ (List.mem_append_right _ (List.mem_append_right _ (List.mem_append_right _ (List.mem_append_left _ (List.mem_of_getElem? (i := 177) (by decide +kernel))))))) rfl
theorem ws_X6_fault : sw_MV yX6_fault cX6_fault 2 (some .int) 1 RX6 := ⟨wk_X6_fault, wt_X6_fault, we_X6_fault, wi_X6, ⟨by decide, by decide, by decide +kernel⟩, by decide⟩
theorem wk_X6_town : Cond.code yX6_town cX6_town 3 (some .int) ∈ sw_tbl := sw_mem (List.mem_append_right _ (List.mem_append_right _ (List.mem_append_right _ (List.mem_append_right _ (List.mem_append_left _ (List.mem_of_getElem? (i := 209) rfl)))))) rfl
theorem wt_X6_town : Cond.instanceMethod yX6_town ∈ sw_tbl := sw_mem (List.mem_append_right _ (List.mem_append_right _ (List.mem_append_right _ (List.mem_append_right _ (List.mem_append_left _ (List.mem_of_getElem? (i := 207) (by decide +kernel))))))) rfl
theorem we_X6_town : Cond.selects RX6 yX6_town yX6_town ∈ sw_tbl := sw_mem (List.mem_append_right _ (List.mem_append_right _ (List.mem_append_right _ (List.mem_append_right _ (List.mem_append_left _ (List.mem_of_getElem? (i := 208) (by decide +kernel))))))) rfl
theorem ws_X6_town : sw_MV yX6_town cX6_town 3 (some .int) 1 RX6 := ⟨wk_X6_town, wt_X6_town, we_X6_town, wi_X6, ⟨by decide, by decide, by decide +kernel⟩, by decide⟩
theorem wk_X6_isStranger : Cond.code yX6_isStranger cX6_isStranger 2 (some .boolean) ∈ sw_tbl := sw_mem (List.mem_append_right _ (List.mem_append_right _ (List.mem_append_right _ (List.mem_append_right _ (List.mem_append_left _ (List.mem_of_getElem? (i := 217) rfl)))))) rfl
theorem wt_X6_isStranger : Cond.instanceMethod yX6_isStranger ∈ sw_tbl := sw_mem (List.mem_append_right _ (List.mem_append_right _ (List.mem_append_right _ (List.mem_append_right _ (List.mem_append_left _ (List.mem_of_getElem? (i := 216) (by decide +kernel))))))) rfl
theorem we_X6_isStranger : Cond.selects RX6 yX6_isStranger yX6_isStranger ∈ sw_tbl := sw_mem (List.mem_append_left _ (List.mem_of_getElem? (i := 29) (by decide +kernel))) rfl
theorem ws_X6_isStranger : sw_MV yX6_isStranger cX6_isStranger 2 (some .boolean) 1 RX6 := ⟨wk_X6_isStranger, wt_X6_isStranger, we_X6_isStranger, wi_X6, ⟨by decide, by decide, by decide +kernel⟩, by decide⟩
theorem wk_X6_isIn : Cond.code yX6_isIn cX6_isIn 3 (some .boolean) ∈ sw_tbl := sw_mem (List.mem_append_right _ (List.mem_append_right _ (List.mem_append_right _ (List.mem_append_right _ (List.mem_append_right _ (List.mem_append_left _ (List.mem_of_getElem? (i := 15) rfl))))))) rfl
theorem wt_X6_isIn : Cond.instanceMethod yX6_isIn ∈ sw_tbl := sw_mem (List.mem_append_right _ (List.mem_append_right _ (List.mem_append_right _ (List.mem_append_right _ (List.mem_append_right _ (List.mem_append_left _ (List.mem_of_getElem? (i := 14) (by decide +kernel)))))))) rfl
theorem we_X6_isIn : Cond.selects RX6 yX6_isIn yX6_isIn ∈ sw_tbl := sw_mem (List.mem_append_left _ (List.mem_of_getElem? (i := 34) (by decide +kernel))) rfl
theorem ws_X6_isIn : sw_MV yX6_isIn cX6_isIn 3 (some .boolean) 2 RX6 := ⟨wk_X6_isIn, wt_X6_isIn, we_X6_isIn, wi_X6, ⟨by decide, by decide, by decide +kernel⟩, by decide⟩
theorem wk_X6_pilgrims : Cond.code yX6_pilgrims cX6_pilgrims 4 (some .int) ∈ sw_tbl := sw_mem (List.mem_append_right _ (List.mem_append_right _ (List.mem_append_right _ (List.mem_append_right _ (List.mem_append_left _ (List.mem_of_getElem? (i := 229) rfl)))))) rfl
theorem wt_X6_pilgrims : Cond.instanceMethod yX6_pilgrims ∈ sw_tbl := sw_mem (List.mem_append_right _ (List.mem_append_right _ (List.mem_append_right _ (List.mem_append_right _ (List.mem_append_left _ (List.mem_of_getElem? (i := 228) (by decide +kernel))))))) rfl
theorem we_X6_pilgrims : Cond.selects RX6 yX6_pilgrims yX6_pilgrims ∈ sw_tbl := sw_mem (List.mem_append_left _ (List.mem_of_getElem? (i := 32) (by decide +kernel))) rfl
theorem ws_X6_pilgrims : sw_MV yX6_pilgrims cX6_pilgrims 4 (some .int) 1 RX6 := ⟨wk_X6_pilgrims, wt_X6_pilgrims, we_X6_pilgrims, wi_X6, ⟨by decide, by decide, by decide +kernel⟩, by decide⟩
theorem wk_X6_turnsOf : Cond.code yX6_turnsOf cX6_turnsOf 5 (some .int) ∈ sw_tbl := sw_mem (List.mem_append_right _ (List.mem_append_right _ (List.mem_append_right _ (List.mem_append_right _ (List.mem_append_left _ (List.mem_of_getElem? (i := 225) rfl)))))) rfl
theorem wt_X6_turnsOf : Cond.instanceMethod yX6_turnsOf ∈ sw_tbl := sw_mem (List.mem_append_right _ (List.mem_append_right _ (List.mem_append_right _ (List.mem_append_right _ (List.mem_append_left _ (List.mem_of_getElem? (i := 224) (by decide +kernel))))))) rfl
theorem we_X6_turnsOf : Cond.selects RX6 yX6_turnsOf yX6_turnsOf ∈ sw_tbl := sw_mem (List.mem_append_left _ (List.mem_of_getElem? (i := 31) (by decide +kernel))) rfl
theorem ws_X6_turnsOf : sw_MV yX6_turnsOf cX6_turnsOf 5 (some .int) 2 RX6 := ⟨wk_X6_turnsOf, wt_X6_turnsOf, we_X6_turnsOf, wi_X6, ⟨by decide, by decide, by decide +kernel⟩, by decide⟩
theorem wk_X6_comesIn : Cond.code yX6_comesIn cX6_comesIn 5 none ∈ sw_tbl := sw_mem (List.mem_append_right _ (List.mem_append_right _ (List.mem_append_right _ (List.mem_append_right _ (List.mem_append_right _ (List.mem_append_left _ (List.mem_of_getElem? (i := 27) rfl))))))) rfl
theorem wt_X6_comesIn : Cond.instanceMethod yX6_comesIn ∈ sw_tbl := sw_mem (List.mem_append_right _ (List.mem_append_right _ (List.mem_append_right _ (List.mem_append_right _ (List.mem_append_right _ (List.mem_append_left _ (List.mem_of_getElem? (i := 26) (by decide +kernel)))))))) rfl
theorem we_X6_comesIn : Cond.selects RX6 yX6_comesIn yX6_comesIn ∈ sw_tbl := sw_mem (List.mem_append_left _ (List.mem_of_getElem? (i := 37) (by decide +kernel))) rfl
theorem ws_X6_comesIn : sw_MV yX6_comesIn cX6_comesIn 5 none 2 RX6 := ⟨wk_X6_comesIn, wt_X6_comesIn, we_X6_comesIn, wi_X6, ⟨by decide, by decide, by decide +kernel⟩, by decide⟩
theorem wk_X6_pass : Cond.code yX6_pass cX6_pass 3 (some .int) ∈ sw_tbl := sw_mem (List.mem_append_right _ (List.mem_append_right _ (List.mem_append_right _ (List.mem_append_right _ (List.mem_append_right _ (List.mem_append_left _ (List.mem_of_getElem? (i := 43) rfl))))))) rfl
theorem wt_X6_pass : Cond.instanceMethod yX6_pass ∈ sw_tbl := sw_mem (List.mem_append_right _ (List.mem_append_right _ (List.mem_append_right _ (List.mem_append_right _ (List.mem_append_right _ (List.mem_append_left _ (List.mem_of_getElem? (i := 42) (by decide +kernel)))))))) rfl
theorem we_X6_pass : Cond.selects RX6 yX6_pass yX6_pass ∈ sw_tbl := sw_mem (List.mem_append_left _ (List.mem_of_getElem? (i := 39) (by decide +kernel))) rfl
theorem ws_X6_pass : sw_MV yX6_pass cX6_pass 3 (some .int) 1 RX6 := ⟨wk_X6_pass, wt_X6_pass, we_X6_pass, wi_X6, ⟨by decide, by decide, by decide +kernel⟩, by decide⟩
theorem wk_X6_layTried : Cond.code yX6_layTried cX6_layTried 2 none ∈ sw_tbl := sw_mem (List.mem_append_right _ (List.mem_append_right _ (List.mem_append_right _ (List.mem_append_right _ (List.mem_append_right _ (List.mem_append_left _ (List.mem_of_getElem? (i := 72) rfl))))))) rfl
theorem wt_X6_layTried : Cond.instanceMethod yX6_layTried ∈ sw_tbl := sw_mem (List.mem_append_right _ (List.mem_append_right _ (List.mem_append_right _ (List.mem_append_right _ (List.mem_append_right _ (List.mem_append_left _ (List.mem_of_getElem? (i := 71) (by decide +kernel)))))))) rfl
theorem we_X6_layTried : Cond.selects RX6 yX6_layTried yX6_layTried ∈ sw_tbl := sw_mem (List.mem_append_left _ (List.mem_of_getElem? (i := 41) (by decide +kernel))) rfl
theorem ws_X6_layTried : sw_MV yX6_layTried cX6_layTried 2 none 0 RX6 := ⟨wk_X6_layTried, wt_X6_layTried, we_X6_layTried, wi_X6, ⟨by decide, by decide, by decide +kernel⟩, by decide⟩
theorem wk_X6_comeTried : Cond.code yX6_comeTried cX6_comeTried 3 none ∈ sw_tbl := sw_mem (List.mem_append_right _ (List.mem_append_right _ (List.mem_append_right _ (List.mem_append_right _ (List.mem_append_right _ (List.mem_append_left _ (List.mem_of_getElem? (i := 104) rfl))))))) rfl
theorem wt_X6_comeTried : Cond.instanceMethod yX6_comeTried ∈ sw_tbl := sw_mem (List.mem_append_right _ (List.mem_append_right _ (List.mem_append_right _ (List.mem_append_right _ (List.mem_append_right _ (List.mem_append_left _ (List.mem_of_getElem? (i := 103) (by decide +kernel)))))))) rfl
theorem we_X6_comeTried : Cond.selects RX6 yX6_comeTried yX6_comeTried ∈ sw_tbl := sw_mem (List.mem_append_left _ (List.mem_of_getElem? (i := 47) (by decide +kernel))) rfl
theorem ws_X6_comeTried : sw_MV yX6_comeTried cX6_comeTried 3 none 1 RX6 := ⟨wk_X6_comeTried, wt_X6_comeTried, we_X6_comeTried, wi_X6, ⟨by decide, by decide, by decide +kernel⟩, by decide⟩
theorem wk_X6_out : Cond.code yX6_out cX6_out 1 (some .int) ∈ sw_tbl := sw_mem (List.mem_append_right _ (List.mem_append_right _ (List.mem_append_right _ (List.mem_append_right _ (List.mem_append_right _ (List.mem_append_left _ (List.mem_of_getElem? (i := 96) rfl))))))) rfl
theorem wt_X6_out : Cond.instanceMethod yX6_out ∈ sw_tbl := sw_mem (List.mem_append_right _ (List.mem_append_right _ (List.mem_append_right _ (List.mem_append_right _ (List.mem_append_right _ (List.mem_append_left _ (List.mem_of_getElem? (i := 95) (by decide +kernel)))))))) rfl
theorem we_X6_out : Cond.selects RX6 yX6_out yX6_out ∈ sw_tbl := sw_mem (List.mem_append_left _ (List.mem_of_getElem? (i := 45) (by decide +kernel))) rfl
theorem ws_X6_out : sw_MV yX6_out cX6_out 1 (some .int) 0 RX6 := ⟨wk_X6_out, wt_X6_out, we_X6_out, wi_X6, ⟨by decide, by decide, by decide +kernel⟩, by decide⟩
theorem wk_X6_toldOf : Cond.code yX6_toldOf cX6_toldOf 3 (some .int) ∈ sw_tbl := sw_mem (List.mem_append_right _ (List.mem_append_right _ (List.mem_append_right _ (List.mem_append_right _ (List.mem_append_left _ (List.mem_of_getElem? (i := 221) rfl)))))) rfl
theorem wt_X6_toldOf : Cond.instanceMethod yX6_toldOf ∈ sw_tbl := sw_mem (List.mem_append_right _ (List.mem_append_right _ (List.mem_append_right _ (List.mem_append_right _ (List.mem_append_left _ (List.mem_of_getElem? (i := 220) (by decide +kernel))))))) rfl
theorem we_X6_toldOf : Cond.selects RX6 yX6_toldOf yX6_toldOf ∈ sw_tbl := sw_mem (List.mem_append_left _ (List.mem_of_getElem? (i := 30) (by decide +kernel))) rfl
theorem ws_X6_toldOf : sw_MV yX6_toldOf cX6_toldOf 3 (some .int) 2 RX6 := ⟨wk_X6_toldOf, wt_X6_toldOf, we_X6_toldOf, wi_X6, ⟨by decide, by decide, by decide +kernel⟩, by decide⟩
theorem wk_X6_stranger : Cond.code yX6_stranger cX6_stranger 3 (some .int) ∈ sw_tbl := sw_mem (List.mem_append_right _ (List.mem_append_right _ (List.mem_append_right _ (List.mem_append_right _ (List.mem_append_left _ (List.mem_of_getElem? (i := 213) rfl)))))) rfl
theorem wt_X6_stranger : Cond.instanceMethod yX6_stranger ∈ sw_tbl := sw_mem (List.mem_append_right _ (List.mem_append_right _ (List.mem_append_right _ (List.mem_append_right _ (List.mem_append_left _ (List.mem_of_getElem? (i := 211) (by decide +kernel))))))) rfl
theorem we_X6_stranger : Cond.selects RX6 yX6_stranger yX6_stranger ∈ sw_tbl := sw_mem (List.mem_append_right _ (List.mem_append_right _ (List.mem_append_right _ (List.mem_append_right _ (List.mem_append_left _ (List.mem_of_getElem? (i := 212) (by decide +kernel))))))) rfl
theorem ws_X6_stranger : sw_MV yX6_stranger cX6_stranger 3 (some .int) 2 RX6 := ⟨wk_X6_stranger, wt_X6_stranger, we_X6_stranger, wi_X6, ⟨by decide, by decide, by decide +kernel⟩, by decide⟩
theorem wk_X6_isOf : Cond.code yX6_isOf cX6_isOf 3 (some .boolean) ∈ sw_tbl := sw_mem (List.mem_append_right _ (List.mem_append_right _ (List.mem_append_right _ (List.mem_append_right _ (List.mem_append_right _ (List.mem_append_left _ (List.mem_of_getElem? (i := 3) rfl))))))) rfl
theorem wt_X6_isOf : Cond.instanceMethod yX6_isOf ∈ sw_tbl := sw_mem (List.mem_append_right _ (List.mem_append_right _ (List.mem_append_right _ (List.mem_append_right _ (List.mem_append_right _ (List.mem_append_left _ (List.mem_of_getElem? (i := 2) (by decide +kernel)))))))) rfl
theorem we_X6_isOf : Cond.selects RX6 yX6_isOf yX6_isOf ∈ sw_tbl := sw_mem (List.mem_append_left _ (List.mem_of_getElem? (i := 33) (by decide +kernel))) rfl
theorem ws_X6_isOf : sw_MV yX6_isOf cX6_isOf 3 (some .boolean) 2 RX6 := ⟨wk_X6_isOf, wt_X6_isOf, we_X6_isOf, wi_X6, ⟨by decide, by decide, by decide +kernel⟩, by decide⟩
theorem wk_X6_mark : Cond.code yX6_mark cX6_mark 3 (some .int) ∈ sw_tbl := sw_mem (List.mem_append_right _ (List.mem_append_right _ (List.mem_append_right _ (List.mem_append_right _ (List.mem_append_left _ (List.mem_of_getElem? (i := 239) rfl)))))) rfl
theorem wt_X6_mark : Cond.instanceMethod yX6_mark ∈ sw_tbl := sw_mem (List.mem_append_right _ (List.mem_append_right _ (List.mem_append_right _ (List.mem_append_right _ (List.mem_append_left _ (List.mem_of_getElem? (i := 237) (by decide +kernel))))))) rfl
theorem we_X6_mark : Cond.selects RX6 yX6_mark yX6_mark ∈ sw_tbl := sw_mem (List.mem_append_right _ (List.mem_append_right _ (List.mem_append_right _ (List.mem_append_right _ (List.mem_append_left _ (List.mem_of_getElem? (i := 238) (by decide +kernel))))))) rfl
theorem ws_X6_mark : sw_MV yX6_mark cX6_mark 3 (some .int) 2 RX6 := ⟨wk_X6_mark, wt_X6_mark, we_X6_mark, wi_X6, ⟨by decide, by decide, by decide +kernel⟩, by decide⟩
theorem wk_X6_gate : Cond.code yX6_gate cX6_gate 2 (some .int) ∈ sw_tbl := sw_mem (List.mem_append_right _ (List.mem_append_right _ (List.mem_append_right _ (List.mem_append_right _ (List.mem_append_right _ (List.mem_append_left _ (List.mem_of_getElem? (i := 7) rfl))))))) rfl
theorem wt_X6_gate : Cond.instanceMethod yX6_gate ∈ sw_tbl := sw_mem (List.mem_append_right _ (List.mem_append_right _ (List.mem_append_right _ (List.mem_append_right _ (List.mem_append_right _ (List.mem_append_left _ (List.mem_of_getElem? (i := 5) (by decide +kernel)))))))) rfl
theorem we_X6_gate : Cond.selects RX6 yX6_gate yX6_gate ∈ sw_tbl := sw_mem (List.mem_append_right _ (List.mem_append_right _ (List.mem_append_right _ (List.mem_append_right _ (List.mem_append_right _ (List.mem_append_left _ (List.mem_of_getElem? (i := 6) (by decide +kernel)))))))) rfl
theorem ws_X6_gate : sw_MV yX6_gate cX6_gate 2 (some .int) 1 RX6 := ⟨wk_X6_gate, wt_X6_gate, we_X6_gate, wi_X6, ⟨by decide, by decide, by decide +kernel⟩, by decide⟩
theorem wk_X6_keepPast : Cond.code yX6_keepPast cX6_keepPast 2 none ∈ sw_tbl := sw_mem (List.mem_append_right _ (List.mem_append_right _ (List.mem_append_right _ (List.mem_append_right _ (List.mem_append_right _ (List.mem_append_left _ (List.mem_of_getElem? (i := 23) rfl))))))) rfl
theorem wt_X6_keepPast : Cond.instanceMethod yX6_keepPast ∈ sw_tbl := sw_mem (List.mem_append_right _ (List.mem_append_right _ (List.mem_append_right _ (List.mem_append_right _ (List.mem_append_right _ (List.mem_append_left _ (List.mem_of_getElem? (i := 22) (by decide +kernel)))))))) rfl
theorem we_X6_keepPast : Cond.selects RX6 yX6_keepPast yX6_keepPast ∈ sw_tbl := sw_mem (List.mem_append_left _ (List.mem_of_getElem? (i := 36) (by decide +kernel))) rfl
theorem ws_X6_keepPast : sw_MV yX6_keepPast cX6_keepPast 2 none 0 RX6 := ⟨wk_X6_keepPast, wt_X6_keepPast, we_X6_keepPast, wi_X6, ⟨by decide, by decide, by decide +kernel⟩, by decide⟩
theorem wk_X6_doLet : Cond.code yX6_doLet cX6_doLet 2 (some .int) ∈ sw_tbl := sw_mem (List.mem_append_right _ (List.mem_append_right _ (List.mem_append_right _ (List.mem_append_right _ (List.mem_append_right _ (List.mem_append_left _ (List.mem_of_getElem? (i := 19) rfl))))))) rfl
theorem wt_X6_doLet : Cond.instanceMethod yX6_doLet ∈ sw_tbl := sw_mem (List.mem_append_right _ (List.mem_append_right _ (List.mem_append_right _ (List.mem_append_right _ (List.mem_append_right _ (List.mem_append_left _ (List.mem_of_getElem? (i := 18) (by decide +kernel)))))))) rfl
theorem we_X6_doLet : Cond.selects RX6 yX6_doLet yX6_doLet ∈ sw_tbl := sw_mem (List.mem_append_left _ (List.mem_of_getElem? (i := 35) (by decide +kernel))) rfl
theorem ws_X6_doLet : sw_MV yX6_doLet cX6_doLet 2 (some .int) 1 RX6 := ⟨wk_X6_doLet, wt_X6_doLet, we_X6_doLet, wi_X6, ⟨by decide, by decide, by decide +kernel⟩, by decide⟩
theorem wk_X6_let : Cond.code yX6_let cX6_let 2 (some .int) ∈ sw_tbl := sw_mem (List.mem_append_right _ (List.mem_append_right _ (List.mem_append_right _ (List.mem_append_right _ (List.mem_append_right _ (List.mem_append_left _ (List.mem_of_getElem? (i := 11) rfl))))))) rfl
theorem wt_X6_let : Cond.instanceMethod yX6_let ∈ sw_tbl := sw_mem (List.mem_append_right _ (List.mem_append_right _ (List.mem_append_right _ (List.mem_append_right _ (List.mem_append_right _ (List.mem_append_left _ (List.mem_of_getElem? (i := 9) (by decide +kernel)))))))) rfl
theorem we_X6_let : Cond.selects RX6 yX6_let yX6_let ∈ sw_tbl := sw_mem (List.mem_append_right _ (List.mem_append_right _ (List.mem_append_right _ (List.mem_append_right _ (List.mem_append_right _ (List.mem_append_left _ (List.mem_of_getElem? (i := 10) (by decide +kernel)))))))) rfl
theorem ws_X6_let : sw_MV yX6_let cX6_let 2 (some .int) 1 RX6 := ⟨wk_X6_let, wt_X6_let, we_X6_let, wi_X6, ⟨by decide, by decide, by decide +kernel⟩, by decide⟩
theorem wk_X6_doLeave : Cond.code yX6_doLeave cX6_doLeave 2 (some .int) ∈ sw_tbl := sw_mem (List.mem_append_right _ (List.mem_append_right _ (List.mem_append_right _ (List.mem_append_right _ (List.mem_append_right _ (List.mem_append_left _ (List.mem_of_getElem? (i := 35) rfl))))))) rfl
theorem wt_X6_doLeave : Cond.instanceMethod yX6_doLeave ∈ sw_tbl := sw_mem (List.mem_append_right _ (List.mem_append_right _ (List.mem_append_right _ (List.mem_append_right _ (List.mem_append_right _ (List.mem_append_left _ (List.mem_of_getElem? (i := 34) (by decide +kernel)))))))) rfl
theorem we_X6_doLeave : Cond.selects RX6 yX6_doLeave yX6_doLeave ∈ sw_tbl := sw_mem (List.mem_append_left _ (List.mem_of_getElem? (i := 38) (by decide +kernel))) rfl
theorem ws_X6_doLeave : sw_MV yX6_doLeave cX6_doLeave 2 (some .int) 1 RX6 := ⟨wk_X6_doLeave, wt_X6_doLeave, we_X6_doLeave, wi_X6, ⟨by decide, by decide, by decide +kernel⟩, by decide⟩
theorem wk_X6_leave : Cond.code yX6_leave cX6_leave 2 (some .int) ∈ sw_tbl := sw_mem (List.mem_append_right _ (List.mem_append_right _ (List.mem_append_right _ (List.mem_append_right _ (List.mem_append_right _ (List.mem_append_left _ (List.mem_of_getElem? (i := 31) rfl))))))) rfl
theorem wt_X6_leave : Cond.instanceMethod yX6_leave ∈ sw_tbl := sw_mem (List.mem_append_right _ (List.mem_append_right _ (List.mem_append_right _ (List.mem_append_right _ (List.mem_append_right _ (List.mem_append_left _ (List.mem_of_getElem? (i := 29) (by decide +kernel)))))))) rfl
theorem we_X6_leave : Cond.selects RX6 yX6_leave yX6_leave ∈ sw_tbl := sw_mem (List.mem_append_right _ (List.mem_append_right _ (List.mem_append_right _ (List.mem_append_right _ (List.mem_append_right _ (List.mem_append_left _ (List.mem_of_getElem? (i := 30) (by decide +kernel)))))))) rfl
theorem ws_X6_leave : sw_MV yX6_leave cX6_leave 2 (some .int) 1 RX6 := ⟨wk_X6_leave, wt_X6_leave, we_X6_leave, wi_X6, ⟨by decide, by decide, by decide +kernel⟩, by decide⟩
theorem wk_X6_hour : Cond.code yX6_hour cX6_hour 2 (some .int) ∈ sw_tbl := sw_mem (List.mem_append_right _ (List.mem_append_right _ (List.mem_append_right _ (List.mem_append_right _ (List.mem_append_right _ (List.mem_append_left _ (List.mem_of_getElem? (i := 39) rfl))))))) rfl
theorem wt_X6_hour : Cond.instanceMethod yX6_hour ∈ sw_tbl := sw_mem (List.mem_append_right _ (List.mem_append_right _ (List.mem_append_right _ (List.mem_append_right _ (List.mem_append_right _ (List.mem_append_left _ (List.mem_of_getElem? (i := 37) (by decide +kernel)))))))) rfl
theorem we_X6_hour : Cond.selects RX6 yX6_hour yX6_hour ∈ sw_tbl := sw_mem (List.mem_append_right _ (List.mem_append_right _ (List.mem_append_right _ (List.mem_append_right _ (List.mem_append_right _ (List.mem_append_left _ (List.mem_of_getElem? (i := 38) (by decide +kernel)))))))) rfl
theorem ws_X6_hour : sw_MV yX6_hour cX6_hour 2 (some .int) 0 RX6 := ⟨wk_X6_hour, wt_X6_hour, we_X6_hour, wi_X6, ⟨by decide, by decide, by decide +kernel⟩, by decide⟩
theorem wk_X6_frost : Cond.code yX6_frost cX6_frost 3 (some .int) ∈ sw_tbl := sw_mem (List.mem_append_right _ (List.mem_append_right _ (List.mem_append_right _ (List.mem_append_right _ (List.mem_append_right _ (List.mem_append_left _ (List.mem_of_getElem? (i := 47) rfl))))))) rfl
theorem wt_X6_frost : Cond.instanceMethod yX6_frost ∈ sw_tbl := sw_mem (List.mem_append_right _ (List.mem_append_right _ (List.mem_append_right _ (List.mem_append_right _ (List.mem_append_right _ (List.mem_append_left _ (List.mem_of_getElem? (i := 45) (by decide +kernel)))))))) rfl
theorem we_X6_frost : Cond.selects RX6 yX6_frost yX6_frost ∈ sw_tbl := sw_mem (List.mem_append_right _ (List.mem_append_right _ (List.mem_append_right _ (List.mem_append_right _ (List.mem_append_right _ (List.mem_append_left _ (List.mem_of_getElem? (i := 46) (by decide +kernel)))))))) rfl
theorem ws_X6_frost : sw_MV yX6_frost cX6_frost 3 (some .int) 1 RX6 := ⟨wk_X6_frost, wt_X6_frost, we_X6_frost, wi_X6, ⟨by decide, by decide, by decide +kernel⟩, by decide⟩
theorem wk_X6_undo : Cond.code yX6_undo cX6_undo 4 (some .int) ∈ sw_tbl := sw_mem (List.mem_append_right _ (List.mem_append_right _ (List.mem_append_right _ (List.mem_append_right _ (List.mem_append_right _ (List.mem_append_left _ (List.mem_of_getElem? (i := 51) rfl))))))) rfl
theorem wt_X6_undo : Cond.instanceMethod yX6_undo ∈ sw_tbl := sw_mem (List.mem_append_right _ (List.mem_append_right _ (List.mem_append_right _ (List.mem_append_right _ (List.mem_append_right _ (List.mem_append_left _ (List.mem_of_getElem? (i := 49) (by decide +kernel)))))))) rfl
theorem we_X6_undo : Cond.selects RX6 yX6_undo yX6_undo ∈ sw_tbl := sw_mem (List.mem_append_right _ (List.mem_append_right _ (List.mem_append_right _ (List.mem_append_right _ (List.mem_append_right _ (List.mem_append_left _ (List.mem_of_getElem? (i := 50) (by decide +kernel)))))))) rfl
theorem ws_X6_undo : sw_MV yX6_undo cX6_undo 4 (some .int) 1 RX6 := ⟨wk_X6_undo, wt_X6_undo, we_X6_undo, wi_X6, ⟨by decide, by decide, by decide +kernel⟩, by decide⟩
theorem wk_X6_copyTown : Cond.code yX6_copyTown cX6_copyTown 4 none ∈ sw_tbl := sw_mem (List.mem_append_right _ (List.mem_append_right _ (List.mem_append_right _ (List.mem_append_right _ (List.mem_append_right _ (List.mem_append_left _ (List.mem_of_getElem? (i := 60) rfl))))))) rfl
theorem wt_X6_copyTown : Cond.instanceMethod yX6_copyTown ∈ sw_tbl := sw_mem (List.mem_append_right _ (List.mem_append_right _ (List.mem_append_right _ (List.mem_append_right _ (List.mem_append_right _ (List.mem_append_left _ (List.mem_of_getElem? (i := 59) (by decide +kernel)))))))) rfl
theorem we_X6_copyTown : Cond.selects RX6 yX6_copyTown yX6_copyTown ∈ sw_tbl := sw_mem (List.mem_append_left _ (List.mem_of_getElem? (i := 40) (by decide +kernel))) rfl
theorem ws_X6_copyTown : sw_MV yX6_copyTown cX6_copyTown 4 none 2 RX6 := ⟨wk_X6_copyTown, wt_X6_copyTown, we_X6_copyTown, wi_X6, ⟨by decide, by decide, by decide +kernel⟩, by decide⟩
theorem wk_X6_keep : Cond.code yX6_keep cX6_keep 2 (some .int) ∈ sw_tbl := sw_mem (List.mem_append_right _ (List.mem_append_right _ (List.mem_append_right _ (List.mem_append_right _ (List.mem_append_right _ (List.mem_append_left _ (List.mem_of_getElem? (i := 55) rfl))))))) rfl
theorem wt_X6_keep : Cond.instanceMethod yX6_keep ∈ sw_tbl := sw_mem (List.mem_append_right _ (List.mem_append_right _ (List.mem_append_right _ (List.mem_append_right _ (List.mem_append_right _ (List.mem_append_left _ (List.mem_of_getElem? (i := 53) (by decide +kernel)))))))) rfl
theorem we_X6_keep : Cond.selects RX6 yX6_keep yX6_keep ∈ sw_tbl := sw_mem (List.mem_append_right _ (List.mem_append_right _ (List.mem_append_right _ (List.mem_append_right _ (List.mem_append_right _ (List.mem_append_left _ (List.mem_of_getElem? (i := 54) (by decide +kernel)))))))) rfl
theorem ws_X6_keep : sw_MV yX6_keep cX6_keep 2 (some .int) 1 RX6 := ⟨wk_X6_keep, wt_X6_keep, we_X6_keep, wi_X6, ⟨by decide, by decide, by decide +kernel⟩, by decide⟩
theorem wk_X6_on : Cond.code yX6_on cX6_on 2 (some .int) ∈ sw_tbl := sw_mem (List.mem_append_right _ (List.mem_append_right _ (List.mem_append_right _ (List.mem_append_right _ (List.mem_append_right _ (List.mem_append_left _ (List.mem_of_getElem? (i := 64) rfl))))))) rfl
theorem wt_X6_on : Cond.instanceMethod yX6_on ∈ sw_tbl := sw_mem (List.mem_append_right _ (List.mem_append_right _ (List.mem_append_right _ (List.mem_append_right _ (List.mem_append_right _ (List.mem_append_left _ (List.mem_of_getElem? (i := 62) (by decide +kernel)))))))) rfl
theorem we_X6_on : Cond.selects RX6 yX6_on yX6_on ∈ sw_tbl := sw_mem (List.mem_append_right _ (List.mem_append_right _ (List.mem_append_right _ (List.mem_append_right _ (List.mem_append_right _ (List.mem_append_left _ (List.mem_of_getElem? (i := 63) (by decide +kernel)))))))) rfl
theorem ws_X6_on : sw_MV yX6_on cX6_on 2 (some .int) 1 RX6 := ⟨wk_X6_on, wt_X6_on, we_X6_on, wi_X6, ⟨by decide, by decide, by decide +kernel⟩, by decide⟩
theorem wk_X6_lastsTried : Cond.code yX6_lastsTried cX6_lastsTried 2 (some .int) ∈ sw_tbl := sw_mem (List.mem_append_right _ (List.mem_append_right _ (List.mem_append_right _ (List.mem_append_right _ (List.mem_append_right _ (List.mem_append_left _ (List.mem_of_getElem? (i := 76) rfl))))))) rfl
theorem wt_X6_lastsTried : Cond.instanceMethod yX6_lastsTried ∈ sw_tbl := sw_mem (List.mem_append_right _ (List.mem_append_right _ (List.mem_append_right _ (List.mem_append_right _ (List.mem_append_right _ (List.mem_append_left _ (List.mem_of_getElem? (i := 75) (by decide +kernel)))))))) rfl
theorem we_X6_lastsTried : Cond.selects RX6 yX6_lastsTried yX6_lastsTried ∈ sw_tbl := sw_mem (List.mem_append_left _ (List.mem_of_getElem? (i := 42) (by decide +kernel))) rfl
theorem ws_X6_lastsTried : sw_MV yX6_lastsTried cX6_lastsTried 2 (some .int) 0 RX6 := ⟨wk_X6_lastsTried, wt_X6_lastsTried, we_X6_lastsTried, wi_X6, ⟨by decide, by decide, by decide +kernel⟩, by decide⟩
theorem wk_X6_lasts : Cond.code yX6_lasts cX6_lasts 2 (some .int) ∈ sw_tbl := sw_mem (List.mem_append_right _ (List.mem_append_right _ (List.mem_append_right _ (List.mem_append_right _ (List.mem_append_right _ (List.mem_append_left _ (List.mem_of_getElem? (i := 68) rfl))))))) rfl
theorem wt_X6_lasts : Cond.instanceMethod yX6_lasts ∈ sw_tbl := sw_mem (List.mem_append_right _ (List.mem_append_right _ (List.mem_append_right _ (List.mem_append_right _ (List.mem_append_right _ (List.mem_append_left _ (List.mem_of_getElem? (i := 66) (by decide +kernel)))))))) rfl
theorem we_X6_lasts : Cond.selects RX6 yX6_lasts yX6_lasts ∈ sw_tbl := sw_mem (List.mem_append_right _ (List.mem_append_right _ (List.mem_append_right _ (List.mem_append_right _ (List.mem_append_right _ (List.mem_append_left _ (List.mem_of_getElem? (i := 67) (by decide +kernel)))))))) rfl
theorem ws_X6_lasts : sw_MV yX6_lasts cX6_lasts 2 (some .int) 0 RX6 := ⟨wk_X6_lasts, wt_X6_lasts, we_X6_lasts, wi_X6, ⟨by decide, by decide, by decide +kernel⟩, by decide⟩
theorem wk_X6_noRow : Cond.code yX6_noRow cX6_noRow 6 (some .int) ∈ sw_tbl := sw_mem (List.mem_append_right _ (List.mem_append_right _ (List.mem_append_right _ (List.mem_append_right _ (List.mem_append_right _ (List.mem_append_left _ (List.mem_of_getElem? (i := 84) rfl))))))) rfl
theorem wt_X6_noRow : Cond.instanceMethod yX6_noRow ∈ sw_tbl := sw_mem (List.mem_append_right _ (List.mem_append_right _ (List.mem_append_right _ (List.mem_append_right _ (List.mem_append_right _ (List.mem_append_left _ (List.mem_of_getElem? (i := 83) (by decide +kernel)))))))) rfl
theorem we_X6_noRow : Cond.selects RX6 yX6_noRow yX6_noRow ∈ sw_tbl := sw_mem (List.mem_append_left _ (List.mem_of_getElem? (i := 43) (by decide +kernel))) rfl
theorem ws_X6_noRow : sw_MV yX6_noRow cX6_noRow 6 (some .int) 3 RX6 := ⟨wk_X6_noRow, wt_X6_noRow, we_X6_noRow, wi_X6, ⟨by decide, by decide, by decide +kernel⟩, by decide⟩
theorem wk_X6_wound : Cond.code yX6_wound cX6_wound 4 (some .int) ∈ sw_tbl := sw_mem (List.mem_append_right _ (List.mem_append_right _ (List.mem_append_right _ (List.mem_append_right _ (List.mem_append_right _ (List.mem_append_left _ (List.mem_of_getElem? (i := 80) rfl))))))) rfl
theorem wt_X6_wound : Cond.instanceMethod yX6_wound ∈ sw_tbl := sw_mem (List.mem_append_right _ (List.mem_append_right _ (List.mem_append_right _ (List.mem_append_right _ (List.mem_append_right _ (List.mem_append_left _ (List.mem_of_getElem? (i := 78) (by decide +kernel)))))))) rfl
theorem we_X6_wound : Cond.selects RX6 yX6_wound yX6_wound ∈ sw_tbl := sw_mem (List.mem_append_right _ (List.mem_append_right _ (List.mem_append_right _ (List.mem_append_right _ (List.mem_append_right _ (List.mem_append_left _ (List.mem_of_getElem? (i := 79) (by decide +kernel)))))))) rfl
theorem ws_X6_wound : sw_MV yX6_wound cX6_wound 4 (some .int) 1 RX6 := ⟨wk_X6_wound, wt_X6_wound, we_X6_wound, wi_X6, ⟨by decide, by decide, by decide +kernel⟩, by decide⟩
theorem wk_X6_woundBy : Cond.code yX6_woundBy cX6_woundBy 2 (some .int) ∈ sw_tbl := sw_mem (List.mem_append_right _ (List.mem_append_right _ (List.mem_append_right _ (List.mem_append_right _ (List.mem_append_right _ (List.mem_append_left _ (List.mem_of_getElem? (i := 100) rfl))))))) rfl
theorem wt_X6_woundBy : Cond.instanceMethod yX6_woundBy ∈ sw_tbl := sw_mem (List.mem_append_right _ (List.mem_append_right _ (List.mem_append_right _ (List.mem_append_right _ (List.mem_append_right _ (List.mem_append_left _ (List.mem_of_getElem? (i := 99) (by decide +kernel)))))))) rfl
theorem we_X6_woundBy : Cond.selects RX6 yX6_woundBy yX6_woundBy ∈ sw_tbl := sw_mem (List.mem_append_left _ (List.mem_of_getElem? (i := 46) (by decide +kernel))) rfl
theorem ws_X6_woundBy : sw_MV yX6_woundBy cX6_woundBy 2 (some .int) 1 RX6 := ⟨wk_X6_woundBy, wt_X6_woundBy, we_X6_woundBy, wi_X6, ⟨by decide, by decide, by decide +kernel⟩, by decide⟩
theorem wk_X6_isOut : Cond.code yX6_isOut cX6_isOut 2 (some .boolean) ∈ sw_tbl := sw_mem (List.mem_append_right _ (List.mem_append_right _ (List.mem_append_right _ (List.mem_append_right _ (List.mem_append_right _ (List.mem_append_left _ (List.mem_of_getElem? (i := 92) rfl))))))) rfl
theorem wt_X6_isOut : Cond.instanceMethod yX6_isOut ∈ sw_tbl := sw_mem (List.mem_append_right _ (List.mem_append_right _ (List.mem_append_right _ (List.mem_append_right _ (List.mem_append_right _ (List.mem_append_left _ (List.mem_of_getElem? (i := 91) (by decide +kernel)))))))) rfl
theorem we_X6_isOut : Cond.selects RX6 yX6_isOut yX6_isOut ∈ sw_tbl := sw_mem (List.mem_append_left _ (List.mem_of_getElem? (i := 44) (by decide +kernel))) rfl
theorem ws_X6_isOut : sw_MV yX6_isOut cX6_isOut 2 (some .boolean) 1 RX6 := ⟨wk_X6_isOut, wt_X6_isOut, we_X6_isOut, wi_X6, ⟨by decide, by decide, by decide +kernel⟩, by decide⟩
theorem wk_X6_most : Cond.code yX6_most cX6_most 4 (some .int) ∈ sw_tbl := sw_mem (List.mem_append_right _ (List.mem_append_right _ (List.mem_append_right _ (List.mem_append_right _ (List.mem_append_right _ (List.mem_append_left _ (List.mem_of_getElem? (i := 88) rfl))))))) rfl
theorem wt_X6_most : Cond.instanceMethod yX6_most ∈ sw_tbl := sw_mem (List.mem_append_right _ (List.mem_append_right _ (List.mem_append_right _ (List.mem_append_right _ (List.mem_append_right _ (List.mem_append_left _ (List.mem_of_getElem? (i := 86) (by decide +kernel)))))))) rfl
theorem we_X6_most : Cond.selects RX6 yX6_most yX6_most ∈ sw_tbl := sw_mem (List.mem_append_right _ (List.mem_append_right _ (List.mem_append_right _ (List.mem_append_right _ (List.mem_append_right _ (List.mem_append_left _ (List.mem_of_getElem? (i := 87) (by decide +kernel)))))))) rfl
theorem ws_X6_most : sw_MV yX6_most cX6_most 4 (some .int) 0 RX6 := ⟨wk_X6_most, wt_X6_most, we_X6_most, wi_X6, ⟨by decide, by decide, by decide +kernel⟩, by decide⟩
theorem wk_X6_nextOrder : Cond.code yX6_nextOrder cX6_nextOrder 7 (some .boolean) ∈ sw_tbl := sw_mem (List.mem_append_right _ (List.mem_append_right _ (List.mem_append_right _ (List.mem_append_right _ (List.mem_append_right _ (List.mem_append_left _ (List.mem_of_getElem? (i := 112) rfl))))))) rfl
theorem wt_X6_nextOrder : Cond.instanceMethod yX6_nextOrder ∈ sw_tbl := sw_mem (List.mem_append_right _ (List.mem_append_right _ (List.mem_append_right _ (List.mem_append_right _ (List.mem_append_right _ (List.mem_append_left _ (List.mem_of_getElem? (i := 111) (by decide +kernel)))))))) rfl
theorem we_X6_nextOrder : Cond.selects RX6 yX6_nextOrder yX6_nextOrder ∈ sw_tbl := sw_mem (List.mem_append_left _ (List.mem_of_getElem? (i := 48) (by decide +kernel))) rfl
theorem ws_X6_nextOrder : sw_MV yX6_nextOrder cX6_nextOrder 7 (some .boolean) 1 RX6 := ⟨wk_X6_nextOrder, wt_X6_nextOrder, we_X6_nextOrder, wi_X6, ⟨by decide, by decide, by decide +kernel⟩, by decide⟩
theorem wk_X6_order : Cond.code yX6_order cX6_order 6 (some .int) ∈ sw_tbl := sw_mem (List.mem_append_right _ (List.mem_append_right _ (List.mem_append_right _ (List.mem_append_right _ (List.mem_append_right _ (List.mem_append_left _ (List.mem_of_getElem? (i := 108) rfl))))))) rfl
theorem wt_X6_order : Cond.instanceMethod yX6_order ∈ sw_tbl := sw_mem (List.mem_append_right _ (List.mem_append_right _ (List.mem_append_right _ (List.mem_append_right _ (List.mem_append_right _ (List.mem_append_left _ (List.mem_of_getElem? (i := 106) (by decide +kernel)))))))) rfl
theorem we_X6_order : Cond.selects RX6 yX6_order yX6_order ∈ sw_tbl := sw_mem (List.mem_append_right _ (List.mem_append_right _ (List.mem_append_right _ (List.mem_append_right _ (List.mem_append_right _ (List.mem_append_left _ (List.mem_of_getElem? (i := 107) (by decide +kernel)))))))) rfl
theorem ws_X6_order : sw_MV yX6_order cX6_order 6 (some .int) 1 RX6 := ⟨wk_X6_order, wt_X6_order, we_X6_order, wi_X6, ⟨by decide, by decide, by decide +kernel⟩, by decide⟩
theorem wk_X6_power : Cond.code yX6_power cX6_power 4 (some .int) ∈ sw_tbl := sw_mem (List.mem_append_right _ (List.mem_append_right _ (List.mem_append_right _ (List.mem_append_right _ (List.mem_append_right _ (List.mem_append_left _ (List.mem_of_getElem? (i := 125) rfl))))))) rfl
theorem wt_X6_power : Cond.instanceMethod yX6_power ∈ sw_tbl := sw_mem (List.mem_append_right _ (List.mem_append_right _ (List.mem_append_right _ (List.mem_append_right _ (List.mem_append_right _ (List.mem_append_left _ (List.mem_of_getElem? (i := 124) (by decide +kernel)))))))) rfl
theorem we_X6_power : Cond.selects RX6 yX6_power yX6_power ∈ sw_tbl := sw_mem (List.mem_append_left _ (List.mem_of_getElem? (i := 50) (by decide +kernel))) rfl
theorem ws_X6_power : sw_MV yX6_power cX6_power 4 (some .int) 1 RX6 := ⟨wk_X6_power, wt_X6_power, we_X6_power, wi_X6, ⟨by decide, by decide, by decide +kernel⟩, by decide⟩
theorem wk_X6_whoOf : Cond.code yX6_whoOf cX6_whoOf 5 (some .int) ∈ sw_tbl := sw_mem (List.mem_append_right _ (List.mem_append_right _ (List.mem_append_right _ (List.mem_append_right _ (List.mem_append_right _ (List.mem_append_left _ (List.mem_of_getElem? (i := 133) rfl))))))) rfl
theorem wt_X6_whoOf : Cond.instanceMethod yX6_whoOf ∈ sw_tbl := sw_mem (List.mem_append_right _ (List.mem_append_right _ (List.mem_append_right _ (List.mem_append_right _ (List.mem_append_right _ (List.mem_append_left _ (List.mem_of_getElem? (i := 132) (by decide +kernel)))))))) rfl
theorem we_X6_whoOf : Cond.selects RX6 yX6_whoOf yX6_whoOf ∈ sw_tbl := sw_mem (List.mem_append_left _ (List.mem_of_getElem? (i := 52) (by decide +kernel))) rfl
theorem ws_X6_whoOf : sw_MV yX6_whoOf cX6_whoOf 5 (some .int) 3 RX6 := ⟨wk_X6_whoOf, wt_X6_whoOf, we_X6_whoOf, wi_X6, ⟨by decide, by decide, by decide +kernel⟩, by decide⟩
theorem wk_X6_isLetting : Cond.code yX6_isLetting cX6_isLetting 5 (some .boolean) ∈ sw_tbl := sw_mem (List.mem_append_right _ (List.mem_append_right _ (List.mem_append_right _ (List.mem_append_right _ (List.mem_append_right _ (List.mem_append_left _ (List.mem_of_getElem? (i := 129) rfl))))))) rfl
theorem wt_X6_isLetting : Cond.instanceMethod yX6_isLetting ∈ sw_tbl := sw_mem (List.mem_append_right _ (List.mem_append_right _ (List.mem_append_right _ (List.mem_append_right _ (List.mem_append_right _ (List.mem_append_left _ (List.mem_of_getElem? (i := 128) (by decide +kernel)))))))) rfl
theorem we_X6_isLetting : Cond.selects RX6 yX6_isLetting yX6_isLetting ∈ sw_tbl := sw_mem (List.mem_append_left _ (List.mem_of_getElem? (i := 51) (by decide +kernel))) rfl
theorem ws_X6_isLetting : sw_MV yX6_isLetting cX6_isLetting 5 (some .boolean) 2 RX6 := ⟨wk_X6_isLetting, wt_X6_isLetting, we_X6_isLetting, wi_X6, ⟨by decide, by decide, by decide +kernel⟩, by decide⟩
theorem wk_X6_leastBread : Cond.code yX6_leastBread cX6_leastBread 5 (some .int) ∈ sw_tbl := sw_mem (List.mem_append_right _ (List.mem_append_right _ (List.mem_append_right _ (List.mem_append_right _ (List.mem_append_right _ (List.mem_append_left _ (List.mem_of_getElem? (i := 121) rfl))))))) rfl
theorem wt_X6_leastBread : Cond.instanceMethod yX6_leastBread ∈ sw_tbl := sw_mem (List.mem_append_right _ (List.mem_append_right _ (List.mem_append_right _ (List.mem_append_right _ (List.mem_append_right _ (List.mem_append_left _ (List.mem_of_getElem? (i := 120) (by decide +kernel)))))))) rfl
theorem we_X6_leastBread : Cond.selects RX6 yX6_leastBread yX6_leastBread ∈ sw_tbl := sw_mem (List.mem_append_left _ (List.mem_of_getElem? (i := 49) (by decide +kernel))) rfl
theorem ws_X6_leastBread : sw_MV yX6_leastBread cX6_leastBread 5 (some .int) 2 RX6 := ⟨wk_X6_leastBread, wt_X6_leastBread, we_X6_leastBread, wi_X6, ⟨by decide, by decide, by decide +kernel⟩, by decide⟩
theorem wk_X6_ways : Cond.code yX6_ways cX6_ways 3 (some .int) ∈ sw_tbl := sw_mem (List.mem_append_right _ (List.mem_append_right _ (List.mem_append_right _ (List.mem_append_right _ (List.mem_append_right _ (List.mem_append_left _ (List.mem_of_getElem? (i := 116) rfl))))))) rfl
theorem wt_X6_ways : Cond.instanceMethod yX6_ways ∈ sw_tbl := sw_mem (List.mem_append_right _ (List.mem_append_right _ (List.mem_append_right _ (List.mem_append_right _ (List.mem_append_right _ (List.mem_append_left _ (List.mem_of_getElem? (i := 114) (by decide +kernel)))))))) rfl
theorem we_X6_ways : Cond.selects RX6 yX6_ways yX6_ways ∈ sw_tbl := sw_mem (List.mem_append_right _ (List.mem_append_right _ (List.mem_append_right _ (List.mem_append_right _ (List.mem_append_right _ (List.mem_append_left _ (List.mem_of_getElem? (i := 115) (by decide +kernel)))))))) rfl
theorem ws_X6_ways : sw_MV yX6_ways cX6_ways 3 (some .int) 2 RX6 := ⟨wk_X6_ways, wt_X6_ways, we_X6_ways, wi_X6, ⟨by decide, by decide, by decide +kernel⟩, by decide⟩
theorem wk_X6_bread : Cond.code yX6_bread cX6_bread 10 (some .int) ∈ sw_tbl := sw_mem (List.mem_append_right _ (List.mem_append_right _ (List.mem_append_right _ (List.mem_append_right _ (List.mem_append_right _ (List.mem_append_left _ (List.mem_of_getElem? (i := 137) rfl))))))) rfl
theorem wt_X6_bread : Cond.instanceMethod yX6_bread ∈ sw_tbl := sw_mem (List.mem_append_right _ (List.mem_append_right _ (List.mem_append_right _ (List.mem_append_right _ (List.mem_append_right _ (List.mem_append_left _ (List.mem_of_getElem? (i := 135) (by decide +kernel)))))))) rfl
theorem we_X6_bread : Cond.selects RX6 yX6_bread yX6_bread ∈ sw_tbl := sw_mem (List.mem_append_right _ (List.mem_append_right _ (List.mem_append_right _ (List.mem_append_right _ (List.mem_append_right _ (List.mem_append_left _ (List.mem_of_getElem? (i := 136) (by decide +kernel)))))))) rfl
theorem ws_X6_bread : sw_MV yX6_bread cX6_bread 10 (some .int) 3 RX6 := ⟨wk_X6_bread, wt_X6_bread, we_X6_bread, wi_X6, ⟨by decide, by decide, by decide +kernel⟩, by decide⟩
theorem wk_X6_goes : Cond.code yX6_goes cX6_goes 4 (some .int) ∈ sw_tbl := sw_mem (List.mem_append_right _ (List.mem_append_right _ (List.mem_append_right _ (List.mem_append_right _ (List.mem_append_right _ (List.mem_append_left _ (List.mem_of_getElem? (i := 141) rfl))))))) rfl
theorem wt_X6_goes : Cond.instanceMethod yX6_goes ∈ sw_tbl := sw_mem (List.mem_append_right _ (List.mem_append_right _ (List.mem_append_right _ (List.mem_append_right _ (List.mem_append_right _ (List.mem_append_left _ (List.mem_of_getElem? (i := 139) (by decide +kernel)))))))) rfl
theorem we_X6_goes : Cond.selects RX6 yX6_goes yX6_goes ∈ sw_tbl := sw_mem (List.mem_append_right _ (List.mem_append_right _ (List.mem_append_right _ (List.mem_append_right _ (List.mem_append_right _ (List.mem_append_left _ (List.mem_of_getElem? (i := 140) (by decide +kernel)))))))) rfl
theorem ws_X6_goes : sw_MV yX6_goes cX6_goes 4 (some .int) 1 RX6 := ⟨wk_X6_goes, wt_X6_goes, we_X6_goes, wi_X6, ⟨by decide, by decide, by decide +kernel⟩, by decide⟩
theorem wk_X6_behind : Cond.code yX6_behind cX6_behind 4 (some .int) ∈ sw_tbl := sw_mem (List.mem_append_right _ (List.mem_append_right _ (List.mem_append_right _ (List.mem_append_right _ (List.mem_append_right _ (List.mem_append_left _ (List.mem_of_getElem? (i := 145) rfl))))))) rfl
theorem wt_X6_behind : Cond.instanceMethod yX6_behind ∈ sw_tbl := sw_mem (List.mem_append_right _ (List.mem_append_right _ (List.mem_append_right _ (List.mem_append_right _ (List.mem_append_right _ (List.mem_append_left _ (List.mem_of_getElem? (i := 143) (by decide +kernel)))))))) rfl
theorem we_X6_behind : Cond.selects RX6 yX6_behind yX6_behind ∈ sw_tbl := sw_mem (List.mem_append_right _ (List.mem_append_right _ (List.mem_append_right _ (List.mem_append_right _ (List.mem_append_right _ (List.mem_append_left _ (List.mem_of_getElem? (i := 144) (by decide +kernel)))))))) rfl
theorem ws_X6_behind : sw_MV yX6_behind cX6_behind 4 (some .int) 1 RX6 := ⟨wk_X6_behind, wt_X6_behind, we_X6_behind, wi_X6, ⟨by decide, by decide, by decide +kernel⟩, by decide⟩
theorem wk_X6_layFits : Cond.code yX6_layFits cX6_layFits 4 (some .int) ∈ sw_tbl := sw_mem (List.mem_append_right _ (List.mem_append_right _ (List.mem_append_right _ (List.mem_append_right _ (List.mem_append_right _ (List.mem_append_left _ (List.mem_of_getElem? (i := 154) rfl))))))) rfl
theorem wt_X6_layFits : Cond.instanceMethod yX6_layFits ∈ sw_tbl := sw_mem (List.mem_append_right _ (List.mem_append_right _ (List.mem_append_right _ (List.mem_append_right _ (List.mem_append_right _ (List.mem_append_left _ (List.mem_of_getElem? (i := 153) (by decide +kernel)))))))) rfl
theorem we_X6_layFits : Cond.selects RX6 yX6_layFits yX6_layFits ∈ sw_tbl := sw_mem (List.mem_append_left _ (List.mem_of_getElem? (i := 53) (by decide +kernel))) rfl
theorem ws_X6_layFits : sw_MV yX6_layFits cX6_layFits 4 (some .int) 1 RX6 := ⟨wk_X6_layFits, wt_X6_layFits, we_X6_layFits, wi_X6, ⟨by decide, by decide, by decide +kernel⟩, by decide⟩
theorem wk_X6_fits : Cond.code yX6_fits cX6_fits 3 (some .int) ∈ sw_tbl := sw_mem (List.mem_append_right _ (List.mem_append_right _ (List.mem_append_right _ (List.mem_append_right _ (List.mem_append_right _ (List.mem_append_left _ (List.mem_of_getElem? (i := 149) rfl))))))) rfl
theorem wt_X6_fits : Cond.instanceMethod yX6_fits ∈ sw_tbl := sw_mem (List.mem_append_right _ (List.mem_append_right _ (List.mem_append_right _ (List.mem_append_right _ (List.mem_append_right _ (List.mem_append_left _ (List.mem_of_getElem? (i := 147) (by decide +kernel)))))))) rfl
theorem we_X6_fits : Cond.selects RX6 yX6_fits yX6_fits ∈ sw_tbl := sw_mem (List.mem_append_right _ (List.mem_append_right _ (List.mem_append_right _ (List.mem_append_right _ (List.mem_append_right _ (List.mem_append_left _ (List.mem_of_getElem? (i := 148) (by decide +kernel)))))))) rfl
theorem ws_X6_fits : sw_MV yX6_fits cX6_fits 3 (some .int) 1 RX6 := ⟨wk_X6_fits, wt_X6_fits, we_X6_fits, wi_X6, ⟨by decide, by decide, by decide +kernel⟩, by decide⟩
theorem wk_X6_noFits : Cond.code yX6_noFits cX6_noFits 2 (some .int) ∈ sw_tbl := sw_mem (List.mem_append_right _ (List.mem_append_right _ (List.mem_append_right _ (List.mem_append_right _ (List.mem_append_right _ (List.mem_append_left _ (List.mem_of_getElem? (i := 162) rfl))))))) rfl
theorem wt_X6_noFits : Cond.instanceMethod yX6_noFits ∈ sw_tbl := sw_mem (List.mem_append_right _ (List.mem_append_right _ (List.mem_append_right _ (List.mem_append_right _ (List.mem_append_right _ (List.mem_append_left _ (List.mem_of_getElem? (i := 161) (by decide +kernel)))))))) rfl
theorem we_X6_noFits : Cond.selects RX6 yX6_noFits yX6_noFits ∈ sw_tbl := sw_mem (List.mem_append_left _ (List.mem_of_getElem? (i := 54) (by decide +kernel))) rfl
theorem ws_X6_noFits : sw_MV yX6_noFits cX6_noFits 2 (some .int) 1 RX6 := ⟨wk_X6_noFits, wt_X6_noFits, we_X6_noFits, wi_X6, ⟨by decide, by decide, by decide +kernel⟩, by decide⟩
theorem wk_X6_sure : Cond.code yX6_sure cX6_sure 6 (some .int) ∈ sw_tbl := sw_mem (List.mem_append_right _ (List.mem_append_right _ (List.mem_append_right _ (List.mem_append_right _ (List.mem_append_right _ (List.mem_append_left _ (List.mem_of_getElem? (i := 158) rfl))))))) rfl
theorem wt_X6_sure : Cond.instanceMethod yX6_sure ∈ sw_tbl := sw_mem (List.mem_append_right _ (List.mem_append_right _ (List.mem_append_right _ (List.mem_append_right _ (List.mem_append_right _ (List.mem_append_left _ (List.mem_of_getElem? (i := 156) (by decide +kernel)))))))) rfl
theorem we_X6_sure : Cond.selects RX6 yX6_sure yX6_sure ∈ sw_tbl := sw_mem (List.mem_append_right _ (List.mem_append_right _ (List.mem_append_right _ (List.mem_append_right _ (List.mem_append_right _ (List.mem_append_left _ (List.mem_of_getElem? (i := 157) (by decide +kernel)))))))) rfl
theorem ws_X6_sure : sw_MV yX6_sure cX6_sure 6 (some .int) 1 RX6 := ⟨wk_X6_sure, wt_X6_sure, we_X6_sure, wi_X6, ⟨by decide, by decide, by decide +kernel⟩, by decide⟩
theorem wk_X6_greater : Cond.code yX6_greater cX6_greater 5 (some .int) ∈ sw_tbl := sw_mem (List.mem_append_right _ (List.mem_append_right _ (List.mem_append_right _ (List.mem_append_right _ (List.mem_append_right _ (List.mem_append_left _ (List.mem_of_getElem? (i := 170) rfl))))))) rfl
theorem wt_X6_greater : Cond.instanceMethod yX6_greater ∈ sw_tbl := sw_mem (List.mem_append_right _ (List.mem_append_right _ (List.mem_append_right _ (List.mem_append_right _ (List.mem_append_right _ (List.mem_append_left _ (List.mem_of_getElem? (i := 169) (by decide +kernel)))))))) rfl
theorem we_X6_greater : Cond.selects RX6 yX6_greater yX6_greater ∈ sw_tbl := sw_mem (List.mem_append_left _ (List.mem_of_getElem? (i := 55) (by decide +kernel))) rfl
theorem ws_X6_greater : sw_MV yX6_greater cX6_greater 5 (some .int) 1 RX6 := ⟨wk_X6_greater, wt_X6_greater, we_X6_greater, wi_X6, ⟨by decide, by decide, by decide +kernel⟩, by decide⟩
theorem wk_X6_ask : Cond.code yX6_ask cX6_ask 7 (some .int) ∈ sw_tbl := sw_mem (List.mem_append_right _ (List.mem_append_right _ (List.mem_append_right _ (List.mem_append_right _ (List.mem_append_right _ (List.mem_append_left _ (List.mem_of_getElem? (i := 166) rfl))))))) rfl
theorem wt_X6_ask : Cond.instanceMethod yX6_ask ∈ sw_tbl := sw_mem (List.mem_append_right _ (List.mem_append_right _ (List.mem_append_right _ (List.mem_append_right _ (List.mem_append_right _ (List.mem_append_left _ (List.mem_of_getElem? (i := 164) (by decide +kernel)))))))) rfl
theorem we_X6_ask : Cond.selects RX6 yX6_ask yX6_ask ∈ sw_tbl := sw_mem (List.mem_append_right _ (List.mem_append_right _ (List.mem_append_right _ (List.mem_append_right _ (List.mem_append_right _ (List.mem_append_left _ (List.mem_of_getElem? (i := 165) (by decide +kernel)))))))) rfl
theorem ws_X6_ask : sw_MV yX6_ask cX6_ask 7 (some .int) 1 RX6 := ⟨wk_X6_ask, wt_X6_ask, we_X6_ask, wi_X6, ⟨by decide, by decide, by decide +kernel⟩, by decide⟩
theorem wk_X6_came : Cond.code yX6_came cX6_came 7 (some .int) ∈ sw_tbl := sw_mem (List.mem_append_right _ (List.mem_append_right _ (List.mem_append_right _ (List.mem_append_right _ (List.mem_append_right _ (List.mem_append_left _ (List.mem_of_getElem? (i := 174) rfl))))))) rfl
theorem wt_X6_came : Cond.instanceMethod yX6_came ∈ sw_tbl := sw_mem (List.mem_append_right _ (List.mem_append_right _ (List.mem_append_right _ (List.mem_append_right _ (List.mem_append_right _ (List.mem_append_left _ (List.mem_of_getElem? (i := 172) (by decide +kernel)))))))) rfl
theorem we_X6_came : Cond.selects RX6 yX6_came yX6_came ∈ sw_tbl := sw_mem (List.mem_append_right _ (List.mem_append_right _ (List.mem_append_right _ (List.mem_append_right _ (List.mem_append_right _ (List.mem_append_left _ (List.mem_of_getElem? (i := 173) (by decide +kernel)))))))) rfl
theorem ws_X6_came : sw_MV yX6_came cX6_came 7 (some .int) 1 RX6 := ⟨wk_X6_came, wt_X6_came, we_X6_came, wi_X6, ⟨by decide, by decide, by decide +kernel⟩, by decide⟩
theorem wk_X6_worthOf : Cond.code yX6_worthOf cX6_worthOf 5 (some .int) ∈ sw_tbl := sw_mem (List.mem_append_right _ (List.mem_append_right _ (List.mem_append_right _ (List.mem_append_right _ (List.mem_append_right _ (List.mem_append_left _ (List.mem_of_getElem? (i := 183) rfl))))))) rfl
theorem wt_X6_worthOf : Cond.instanceMethod yX6_worthOf ∈ sw_tbl := sw_mem (List.mem_append_right _ (List.mem_append_right _ (List.mem_append_right _ (List.mem_append_right _ (List.mem_append_right _ (List.mem_append_left _ (List.mem_of_getElem? (i := 182) (by decide +kernel)))))))) rfl
theorem we_X6_worthOf : Cond.selects RX6 yX6_worthOf yX6_worthOf ∈ sw_tbl := sw_mem (List.mem_append_left _ (List.mem_of_getElem? (i := 56) (by decide +kernel))) rfl
theorem ws_X6_worthOf : sw_MV yX6_worthOf cX6_worthOf 5 (some .int) 2 RX6 := ⟨wk_X6_worthOf, wt_X6_worthOf, we_X6_worthOf, wi_X6, ⟨by decide, by decide, by decide +kernel⟩, by decide⟩
theorem wk_X6_duel : Cond.code yX6_duel cX6_duel 9 (some .int) ∈ sw_tbl := sw_mem (List.mem_append_right _ (List.mem_append_right _ (List.mem_append_right _ (List.mem_append_right _ (List.mem_append_right _ (List.mem_append_left _ (List.mem_of_getElem? (i := 178) rfl))))))) rfl
theorem wt_X6_duel : Cond.instanceMethod yX6_duel ∈ sw_tbl := sw_mem (List.mem_append_right _ (List.mem_append_right _ (List.mem_append_right _ (List.mem_append_right _ (List.mem_append_right _ (List.mem_append_left _ (List.mem_of_getElem? (i := 176) (by decide +kernel)))))))) rfl
theorem we_X6_duel : Cond.selects RX6 yX6_duel yX6_duel ∈ sw_tbl := sw_mem (List.mem_append_right _ (List.mem_append_right _ (List.mem_append_right _ (List.mem_append_right _ (List.mem_append_right _ (List.mem_append_left _ (List.mem_of_getElem? (i := 177) (by decide +kernel)))))))) rfl
theorem ws_X6_duel : sw_MV yX6_duel cX6_duel 9 (some .int) 1 RX6 := ⟨wk_X6_duel, wt_X6_duel, we_X6_duel, wi_X6, ⟨by decide, by decide, by decide +kernel⟩, by decide⟩
theorem wk_X6_shut : Cond.code yX6_shut cX6_shut 4 (some .int) ∈ sw_tbl := sw_mem (List.mem_append_right _ (List.mem_append_right _ (List.mem_append_right _ (List.mem_append_right _ (List.mem_append_right _ (List.mem_append_left _ (List.mem_of_getElem? (i := 187) rfl))))))) rfl
theorem wt_X6_shut : Cond.instanceMethod yX6_shut ∈ sw_tbl := sw_mem (List.mem_append_right _ (List.mem_append_right _ (List.mem_append_right _ (List.mem_append_right _ (List.mem_append_right _ (List.mem_append_left _ (List.mem_of_getElem? (i := 185) (by decide +kernel)))))))) rfl
theorem we_X6_shut : Cond.selects RX6 yX6_shut yX6_shut ∈ sw_tbl := sw_mem (List.mem_append_right _ (List.mem_append_right _ (List.mem_append_right _ (List.mem_append_right _ (List.mem_append_right _ (List.mem_append_left _ (List.mem_of_getElem? (i := 186) (by decide +kernel)))))))) rfl
theorem ws_X6_shut : sw_MV yX6_shut cX6_shut 4 (some .int) 1 RX6 := ⟨wk_X6_shut, wt_X6_shut, we_X6_shut, wi_X6, ⟨by decide, by decide, by decide +kernel⟩, by decide⟩
theorem wk_X6_meets : Cond.code yX6_meets cX6_meets 3 (some .int) ∈ sw_tbl := sw_mem (List.mem_append_right _ (List.mem_append_right _ (List.mem_append_right _ (List.mem_append_right _ (List.mem_append_right _ (List.mem_append_left _ (List.mem_of_getElem? (i := 191) rfl))))))) rfl
theorem wt_X6_meets : Cond.instanceMethod yX6_meets ∈ sw_tbl := sw_mem (List.mem_append_right _ (List.mem_append_right _ (List.mem_append_right _ (List.mem_append_right _ (List.mem_append_right _ (List.mem_append_left _ (List.mem_of_getElem? (i := 189) (by decide +kernel)))))))) rfl
theorem we_X6_meets : Cond.selects RX6 yX6_meets yX6_meets ∈ sw_tbl := sw_mem (List.mem_append_right _ (List.mem_append_right _ (List.mem_append_right _ (List.mem_append_right _ (List.mem_append_right _ (List.mem_append_left _ (List.mem_of_getElem? (i := 190) (by decide +kernel)))))))) rfl
theorem ws_X6_meets : sw_MV yX6_meets cX6_meets 3 (some .int) 1 RX6 := ⟨wk_X6_meets, wt_X6_meets, we_X6_meets, wi_X6, ⟨by decide, by decide, by decide +kernel⟩, by decide⟩
theorem wk_X6_check : Cond.code yX6_check cX6_check 4 (some .int) ∈ sw_tbl := sw_mem (List.mem_append_right _ (List.mem_append_right _ (List.mem_append_right _ (List.mem_append_right _ (List.mem_append_right _ (List.mem_append_left _ (List.mem_of_getElem? (i := 195) rfl))))))) rfl
theorem wt_X6_check : Cond.instanceMethod yX6_check ∈ sw_tbl := sw_mem (List.mem_append_right _ (List.mem_append_right _ (List.mem_append_right _ (List.mem_append_right _ (List.mem_append_right _ (List.mem_append_left _ (List.mem_of_getElem? (i := 193) (by decide +kernel)))))))) rfl
theorem we_X6_check : Cond.selects RX6 yX6_check yX6_check ∈ sw_tbl := sw_mem (List.mem_append_right _ (List.mem_append_right _ (List.mem_append_right _ (List.mem_append_right _ (List.mem_append_right _ (List.mem_append_left _ (List.mem_of_getElem? (i := 194) (by decide +kernel)))))))) rfl
theorem ws_X6_check : sw_MV yX6_check cX6_check 4 (some .int) 1 RX6 := ⟨wk_X6_check, wt_X6_check, we_X6_check, wi_X6, ⟨by decide, by decide, by decide +kernel⟩, by decide⟩
theorem wk_X6_tellParts : Cond.code yX6_tellParts cX6_tellParts 11 (some .int) ∈ sw_tbl := sw_mem (List.mem_append_right _ (List.mem_append_right _ (List.mem_append_right _ (List.mem_append_right _ (List.mem_append_right _ (List.mem_append_left _ (List.mem_of_getElem? (i := 208) rfl))))))) rfl
theorem wt_X6_tellParts : Cond.instanceMethod yX6_tellParts ∈ sw_tbl := sw_mem (List.mem_append_right _ (List.mem_append_right _ (List.mem_append_right _ (List.mem_append_right _ (List.mem_append_right _ (List.mem_append_left _ (List.mem_of_getElem? (i := 207) (by decide +kernel)))))))) rfl
theorem we_X6_tellParts : Cond.selects RX6 yX6_tellParts yX6_tellParts ∈ sw_tbl := sw_mem (List.mem_append_left _ (List.mem_of_getElem? (i := 58) (by decide +kernel))) rfl
theorem ws_X6_tellParts : sw_MV yX6_tellParts cX6_tellParts 11 (some .int) 2 RX6 := ⟨wk_X6_tellParts, wt_X6_tellParts, we_X6_tellParts, wi_X6, ⟨by decide, by decide, by decide +kernel⟩, by decide⟩
theorem wk_X6_waysOf : Cond.code yX6_waysOf cX6_waysOf 6 (some .long) ∈ sw_tbl := sw_mem (List.mem_append_right _ (List.mem_append_right _ (List.mem_append_right _ (List.mem_append_right _ (List.mem_append_right _ (List.mem_append_left _ (List.mem_of_getElem? (i := 204) rfl))))))) rfl
theorem wt_X6_waysOf : Cond.instanceMethod yX6_waysOf ∈ sw_tbl := sw_mem (List.mem_append_right _ (List.mem_append_right _ (List.mem_append_right _ (List.mem_append_right _ (List.mem_append_right _ (List.mem_append_left _ (List.mem_of_getElem? (i := 203) (by decide +kernel)))))))) rfl
theorem we_X6_waysOf : Cond.selects RX6 yX6_waysOf yX6_waysOf ∈ sw_tbl := sw_mem (List.mem_append_left _ (List.mem_of_getElem? (i := 57) (by decide +kernel))) rfl
theorem ws_X6_waysOf : sw_MV yX6_waysOf cX6_waysOf 6 (some .long) 2 RX6 := ⟨wk_X6_waysOf, wt_X6_waysOf, we_X6_waysOf, wi_X6, ⟨by decide, by decide, by decide +kernel⟩, by decide⟩
theorem wk_X6_odds : Cond.code yX6_odds cX6_odds 10 (some .int) ∈ sw_tbl := sw_mem (List.mem_append_right _ (List.mem_append_right _ (List.mem_append_right _ (List.mem_append_right _ (List.mem_append_right _ (List.mem_append_left _ (List.mem_of_getElem? (i := 199) rfl))))))) rfl
theorem wt_X6_odds : Cond.instanceMethod yX6_odds ∈ sw_tbl := sw_mem (List.mem_append_right _ (List.mem_append_right _ (List.mem_append_right _ (List.mem_append_right _ (List.mem_append_right _ (List.mem_append_left _ (List.mem_of_getElem? (i := 197) (by decide +kernel)))))))) rfl
theorem we_X6_odds : Cond.selects RX6 yX6_odds yX6_odds ∈ sw_tbl := sw_mem (List.mem_append_right _ (List.mem_append_right _ (List.mem_append_right _ (List.mem_append_right _ (List.mem_append_right _ (List.mem_append_left _ (List.mem_of_getElem? (i := 198) (by decide +kernel)))))))) rfl
theorem ws_X6_odds : sw_MV yX6_odds cX6_odds 10 (some .int) 2 RX6 := ⟨wk_X6_odds, wt_X6_odds, we_X6_odds, wi_X6, ⟨by decide, by decide, by decide +kernel⟩, by decide⟩
theorem wk_X6_mid : Cond.code yX6_mid cX6_mid 9 (some .int) ∈ sw_tbl := sw_mem (List.mem_append_right _ (List.mem_append_right _ (List.mem_append_right _ (List.mem_append_right _ (List.mem_append_right _ (List.mem_append_left _ (List.mem_of_getElem? (i := 212) rfl))))))) rfl
theorem wt_X6_mid : Cond.instanceMethod yX6_mid ∈ sw_tbl := sw_mem (List.mem_append_right _ (List.mem_append_right _ (List.mem_append_right _ (List.mem_append_right _ (List.mem_append_right _ (List.mem_append_left _ (List.mem_of_getElem? (i := 210) (by decide +kernel)))))))) rfl
theorem we_X6_mid : Cond.selects RX6 yX6_mid yX6_mid ∈ sw_tbl := sw_mem (List.mem_append_right _ (List.mem_append_right _ (List.mem_append_right _ (List.mem_append_right _ (List.mem_append_right _ (List.mem_append_left _ (List.mem_of_getElem? (i := 211) (by decide +kernel)))))))) rfl
theorem ws_X6_mid : sw_MV yX6_mid cX6_mid 9 (some .int) 1 RX6 := ⟨wk_X6_mid, wt_X6_mid, we_X6_mid, wi_X6, ⟨by decide, by decide, by decide +kernel⟩, by decide⟩
theorem wk_X6_lots : Cond.code yX6_lots cX6_lots 7 (some .int) ∈ sw_tbl := sw_mem (List.mem_append_right _ (List.mem_append_right _ (List.mem_append_right _ (List.mem_append_right _ (List.mem_append_right _ (List.mem_append_left _ (List.mem_of_getElem? (i := 216) rfl))))))) rfl
theorem wt_X6_lots : Cond.instanceMethod yX6_lots ∈ sw_tbl := sw_mem (List.mem_append_right _ (List.mem_append_right _ (List.mem_append_right _ (List.mem_append_right _ (List.mem_append_right _ (List.mem_append_left _ (List.mem_of_getElem? (i := 214) (by decide +kernel)))))))) rfl
theorem we_X6_lots : Cond.selects RX6 yX6_lots yX6_lots ∈ sw_tbl := sw_mem (List.mem_append_right _ (List.mem_append_right _ (List.mem_append_right _ (List.mem_append_right _ (List.mem_append_right _ (List.mem_append_left _ (List.mem_of_getElem? (i := 215) (by decide +kernel)))))))) rfl
theorem ws_X6_lots : sw_MV yX6_lots cX6_lots 7 (some .int) 2 RX6 := ⟨wk_X6_lots, wt_X6_lots, we_X6_lots, wi_X6, ⟨by decide, by decide, by decide +kernel⟩, by decide⟩
theorem wk_X6_asked : Cond.code yX6_asked cX6_asked 1 (some .int) ∈ sw_tbl := sw_mem (List.mem_append_right _ (List.mem_append_right _ (List.mem_append_right _ (List.mem_append_right _ (List.mem_append_right _ (List.mem_append_left _ (List.mem_of_getElem? (i := 225) rfl))))))) rfl
theorem wt_X6_asked : Cond.instanceMethod yX6_asked ∈ sw_tbl := sw_mem (List.mem_append_right _ (List.mem_append_right _ (List.mem_append_right _ (List.mem_append_right _ (List.mem_append_right _ (List.mem_append_left _ (List.mem_of_getElem? (i := 223) (by decide +kernel)))))))) rfl
theorem we_X6_asked : Cond.selects RX6 yX6_asked yX6_asked ∈ sw_tbl := sw_mem (List.mem_append_right _ (List.mem_append_right _ (List.mem_append_right _ (List.mem_append_right _ (List.mem_append_right _ (List.mem_append_left _ (List.mem_of_getElem? (i := 224) (by decide +kernel)))))))) rfl
theorem ws_X6_asked : sw_MV yX6_asked cX6_asked 1 (some .int) 0 RX6 := ⟨wk_X6_asked, wt_X6_asked, we_X6_asked, wi_X6, ⟨by decide, by decide, by decide +kernel⟩, by decide⟩
theorem wk_X6_upper : Cond.code yX6_upper cX6_upper 1 (some .long) ∈ sw_tbl := sw_mem (List.mem_append_right _ (List.mem_append_right _ (List.mem_append_right _ (List.mem_append_right _ (List.mem_append_right _ (List.mem_append_left _ (List.mem_of_getElem? (i := 229) rfl))))))) rfl
theorem wt_X6_upper : Cond.instanceMethod yX6_upper ∈ sw_tbl := sw_mem (List.mem_append_right _ (List.mem_append_right _ (List.mem_append_right _ (List.mem_append_right _ (List.mem_append_right _ (List.mem_append_left _ (List.mem_of_getElem? (i := 227) (by decide +kernel)))))))) rfl
theorem we_X6_upper : Cond.selects RX6 yX6_upper yX6_upper ∈ sw_tbl := sw_mem (List.mem_append_right _ (List.mem_append_right _ (List.mem_append_right _ (List.mem_append_right _ (List.mem_append_right _ (List.mem_append_left _ (List.mem_of_getElem? (i := 228) (by decide +kernel)))))))) rfl
theorem ws_X6_upper : sw_MV yX6_upper cX6_upper 1 (some .long) 0 RX6 := ⟨wk_X6_upper, wt_X6_upper, we_X6_upper, wi_X6, ⟨by decide, by decide, by decide +kernel⟩, by decide⟩
theorem wk_X6_lower : Cond.code yX6_lower cX6_lower 1 (some .long) ∈ sw_tbl := sw_mem (List.mem_append_right _ (List.mem_append_right _ (List.mem_append_right _ (List.mem_append_right _ (List.mem_append_right _ (List.mem_append_left _ (List.mem_of_getElem? (i := 233) rfl))))))) rfl
theorem wt_X6_lower : Cond.instanceMethod yX6_lower ∈ sw_tbl := sw_mem (List.mem_append_right _ (List.mem_append_right _ (List.mem_append_right _ (List.mem_append_right _ (List.mem_append_right _ (List.mem_append_left _ (List.mem_of_getElem? (i := 231) (by decide +kernel)))))))) rfl
theorem we_X6_lower : Cond.selects RX6 yX6_lower yX6_lower ∈ sw_tbl := sw_mem (List.mem_append_right _ (List.mem_append_right _ (List.mem_append_right _ (List.mem_append_right _ (List.mem_append_right _ (List.mem_append_left _ (List.mem_of_getElem? (i := 232) (by decide +kernel)))))))) rfl
theorem ws_X6_lower : sw_MV yX6_lower cX6_lower 1 (some .long) 0 RX6 := ⟨wk_X6_lower, wt_X6_lower, we_X6_lower, wi_X6, ⟨by decide, by decide, by decide +kernel⟩, by decide⟩
theorem wk_X6_strongs : Cond.code yX6_strongs cX6_strongs 3 (some .int) ∈ sw_tbl := sw_mem (List.mem_append_right _ (List.mem_append_right _ (List.mem_append_right _ (List.mem_append_right _ (List.mem_append_right _ (List.mem_append_right _ (List.mem_of_getElem? (i := 5) rfl))))))) rfl
theorem wt_X6_strongs : Cond.instanceMethod yX6_strongs ∈ sw_tbl := sw_mem (List.mem_append_right _ (List.mem_append_right _ (List.mem_append_right _ (List.mem_append_right _ (List.mem_append_right _ (List.mem_append_right _ (List.mem_of_getElem? (i := 4) (by decide +kernel)))))))) rfl
theorem we_X6_strongs : Cond.selects RX6 yX6_strongs yX6_strongs ∈ sw_tbl := sw_mem (List.mem_append_left _ (List.mem_of_getElem? (i := 60) (by decide +kernel))) rfl
theorem ws_X6_strongs : sw_MV yX6_strongs cX6_strongs 3 (some .int) 0 RX6 := ⟨wk_X6_strongs, wt_X6_strongs, we_X6_strongs, wi_X6, ⟨by decide, by decide, by decide +kernel⟩, by decide⟩
theorem wk_X6_thereOf : Cond.code yX6_thereOf cX6_thereOf 4 (some .int) ∈ sw_tbl := sw_mem (List.mem_append_right _ (List.mem_append_right _ (List.mem_append_right _ (List.mem_append_right _ (List.mem_append_right _ (List.mem_append_right _ (List.mem_of_getElem? (i := 9) rfl))))))) rfl
theorem wt_X6_thereOf : Cond.instanceMethod yX6_thereOf ∈ sw_tbl := sw_mem (List.mem_append_right _ (List.mem_append_right _ (List.mem_append_right _ (List.mem_append_right _ (List.mem_append_right _ (List.mem_append_right _ (List.mem_of_getElem? (i := 8) (by decide +kernel)))))))) rfl
theorem we_X6_thereOf : Cond.selects RX6 yX6_thereOf yX6_thereOf ∈ sw_tbl := sw_mem (List.mem_append_left _ (List.mem_of_getElem? (i := 61) (by decide +kernel))) rfl
theorem ws_X6_thereOf : sw_MV yX6_thereOf cX6_thereOf 4 (some .int) 1 RX6 := ⟨wk_X6_thereOf, wt_X6_thereOf, we_X6_thereOf, wi_X6, ⟨by decide, by decide, by decide +kernel⟩, by decide⟩
theorem wk_X6_countOf : Cond.code yX6_countOf cX6_countOf 2 (some .int) ∈ sw_tbl := sw_mem (List.mem_append_right _ (List.mem_append_right _ (List.mem_append_right _ (List.mem_append_right _ (List.mem_append_right _ (List.mem_append_right _ (List.mem_of_getElem? (i := 1) rfl))))))) rfl
theorem wt_X6_countOf : Cond.instanceMethod yX6_countOf ∈ sw_tbl := sw_mem (List.mem_append_right _ (List.mem_append_right _ (List.mem_append_right _ (List.mem_append_right _ (List.mem_append_right _ (List.mem_append_right _ (List.mem_of_getElem? (i := 0) (by decide +kernel)))))))) rfl
theorem we_X6_countOf : Cond.selects RX6 yX6_countOf yX6_countOf ∈ sw_tbl := sw_mem (List.mem_append_left _ (List.mem_of_getElem? (i := 59) (by decide +kernel))) rfl
theorem ws_X6_countOf : sw_MV yX6_countOf cX6_countOf 2 (some .int) 1 RX6 := ⟨wk_X6_countOf, wt_X6_countOf, we_X6_countOf, wi_X6, ⟨by decide, by decide, by decide +kernel⟩, by decide⟩
theorem wk_X6_count : Cond.code yX6_count cX6_count 2 (some .int) ∈ sw_tbl := sw_mem (List.mem_append_right _ (List.mem_append_right _ (List.mem_append_right _ (List.mem_append_right _ (List.mem_append_right _ (List.mem_append_left _ (List.mem_of_getElem? (i := 237) rfl))))))) rfl
theorem wt_X6_count : Cond.instanceMethod yX6_count ∈ sw_tbl := sw_mem (List.mem_append_right _ (List.mem_append_right _ (List.mem_append_right _ (List.mem_append_right _ (List.mem_append_right _ (List.mem_append_left _ (List.mem_of_getElem? (i := 235) (by decide +kernel)))))))) rfl
theorem we_X6_count : Cond.selects RX6 yX6_count yX6_count ∈ sw_tbl := sw_mem (List.mem_append_right _ (List.mem_append_right _ (List.mem_append_right _ (List.mem_append_right _ (List.mem_append_right _ (List.mem_append_left _ (List.mem_of_getElem? (i := 236) (by decide +kernel)))))))) rfl
theorem ws_X6_count : sw_MV yX6_count cX6_count 2 (some .int) 1 RX6 := ⟨wk_X6_count, wt_X6_count, we_X6_count, wi_X6, ⟨by decide, by decide, by decide +kernel⟩, by decide⟩
theorem wk_X6_finding : Cond.code yX6_finding cX6_finding 1 (some .int) ∈ sw_tbl := sw_mem (List.mem_append_right _ (List.mem_append_right _ (List.mem_append_right _ (List.mem_append_right _ (List.mem_append_right _ (List.mem_append_right _ (List.mem_of_getElem? (i := 13) rfl))))))) rfl
theorem wt_X6_finding : Cond.instanceMethod yX6_finding ∈ sw_tbl := sw_mem (List.mem_append_right _ (List.mem_append_right _ (List.mem_append_right _ (List.mem_append_right _ (List.mem_append_right _ (List.mem_append_right _ (List.mem_of_getElem? (i := 11) (by decide +kernel)))))))) rfl
theorem we_X6_finding : Cond.selects RX6 yX6_finding yX6_finding ∈ sw_tbl := sw_mem (List.mem_append_right _ (List.mem_append_right _ (List.mem_append_right _ (List.mem_append_right _ (List.mem_append_right _ (List.mem_append_right _ (List.mem_of_getElem? (i := 12) (by decide +kernel)))))))) rfl
theorem ws_X6_finding : sw_MV yX6_finding cX6_finding 1 (some .int) 0 RX6 := ⟨wk_X6_finding, wt_X6_finding, we_X6_finding, wi_X6, ⟨by decide, by decide, by decide +kernel⟩, by decide⟩
theorem wk_X6_findings : Cond.code yX6_findings cX6_findings 2 (some .int) ∈ sw_tbl := sw_mem (List.mem_append_right _ (List.mem_append_right _ (List.mem_append_right _ (List.mem_append_right _ (List.mem_append_right _ (List.mem_append_right _ (List.mem_of_getElem? (i := 17) rfl))))))) rfl
theorem wt_X6_findings : Cond.instanceMethod yX6_findings ∈ sw_tbl := sw_mem (List.mem_append_right _ (List.mem_append_right _ (List.mem_append_right _ (List.mem_append_right _ (List.mem_append_right _ (List.mem_append_right _ (List.mem_of_getElem? (i := 15) (by decide +kernel)))))))) rfl
theorem we_X6_findings : Cond.selects RX6 yX6_findings yX6_findings ∈ sw_tbl := sw_mem (List.mem_append_right _ (List.mem_append_right _ (List.mem_append_right _ (List.mem_append_right _ (List.mem_append_right _ (List.mem_append_right _ (List.mem_of_getElem? (i := 16) (by decide +kernel)))))))) rfl
theorem ws_X6_findings : sw_MV yX6_findings cX6_findings 2 (some .int) 1 RX6 := ⟨wk_X6_findings, wt_X6_findings, we_X6_findings, wi_X6, ⟨by decide, by decide, by decide +kernel⟩, by decide⟩
theorem wk_X6_digest : Cond.code yX6_digest cX6_digest 5 (some .long) ∈ sw_tbl := sw_mem (List.mem_append_right _ (List.mem_append_right _ (List.mem_append_right _ (List.mem_append_right _ (List.mem_append_right _ (List.mem_append_right _ (List.mem_of_getElem? (i := 21) rfl))))))) rfl
theorem wt_X6_digest : Cond.instanceMethod yX6_digest ∈ sw_tbl := sw_mem (List.mem_append_right _ (List.mem_append_right _ (List.mem_append_right _ (List.mem_append_right _ (List.mem_append_right _ (List.mem_append_right _ (List.mem_of_getElem? (i := 19) (by decide +kernel)))))))) rfl
theorem we_X6_digest : Cond.selects RX6 yX6_digest yX6_digest ∈ sw_tbl := sw_mem (List.mem_append_right _ (List.mem_append_right _ (List.mem_append_right _ (List.mem_append_right _ (List.mem_append_right _ (List.mem_append_right _ (List.mem_of_getElem? (i := 20) (by decide +kernel)))))))) rfl
theorem ws_X6_digest : sw_MV yX6_digest cX6_digest 5 (some .long) 0 RX6 := ⟨wk_X6_digest, wt_X6_digest, we_X6_digest, wi_X6, ⟨by decide, by decide, by decide +kernel⟩, by decide⟩
theorem wa_max1 : Cond.static Lib.Math.max.name ∈ sw_tbl := sw_mem (List.mem_append_right _ (List.mem_append_right _ (List.mem_append_left _ (List.mem_of_getElem? (i := 183) (by decide +kernel))))) rfl
theorem wa_max2 : Cond.code Lib.Math.max.name Lib.Math.max.code 2 (some .int) ∈ sw_tbl := sw_mem (List.mem_append_right _ (List.mem_append_right _ (List.mem_append_left _ (List.mem_of_getElem? (i := 184) rfl)))) rfl
theorem ws_max : Cond.static Lib.Math.max.name ∈ sw_tbl ∧ Cond.initialized "java/lang/Math" ∈ sw_tbl ∧ Cond.code Lib.Math.max.name Lib.Math.max.code 2 (some .int) ∈ sw_tbl := ⟨wa_max1, wi_J9, wa_max2⟩
theorem wa_min1 : Cond.static Lib.Math.min.name ∈ sw_tbl := sw_mem (List.mem_append_right _ (List.mem_append_right _ (List.mem_append_left _ (List.mem_of_getElem? (i := 212) (by decide +kernel))))) rfl
theorem wa_min2 : Cond.code Lib.Math.min.name Lib.Math.min.code 2 (some .int) ∈ sw_tbl := sw_mem (List.mem_append_right _ (List.mem_append_right _ (List.mem_append_left _ (List.mem_of_getElem? (i := 213) rfl)))) rfl
theorem ws_min : Cond.static Lib.Math.min.name ∈ sw_tbl ∧ Cond.initialized "java/lang/Math" ∈ sw_tbl ∧ Cond.code Lib.Math.min.name Lib.Math.min.code 2 (some .int) ∈ sw_tbl := ⟨wa_min1, wi_J9, wa_min2⟩
theorem wa_cp1 : Cond.native arraycopyName ∈ sw_tbl := sw_mem (List.mem_append_right _ (List.mem_append_right _ (List.mem_append_left _ (List.mem_of_getElem? (i := 73) (by decide +kernel))))) rfl
theorem wa_cp2 : Cond.static arraycopyName ∈ sw_tbl := sw_mem (List.mem_append_right _ (List.mem_append_right _ (List.mem_append_left _ (List.mem_of_getElem? (i := 72) (by decide +kernel))))) rfl
theorem wa_cp3 : Cond.initialized "java/lang/System" ∈ sw_tbl := sw_mem (List.mem_append_right _ (List.mem_append_left _ (List.mem_of_getElem? (i := 9) (by decide +kernel)))) rfl
theorem ws_copy : Cond.native arraycopyName ∈ sw_tbl ∧ Cond.static arraycopyName ∈ sw_tbl ∧ Cond.initialized "java/lang/System" ∈ sw_tbl := ⟨wa_cp1, wa_cp2, wa_cp3⟩
end
section
theorem sw_tk1 {t : Nat} (h : sw_kd t = 4) : sw_kd (t + 1) = 8 := (sw_tw1 h 0 (by decide)).1
theorem sw_tn1 {t : Nat} (h : sw_kd t = 4) : sw_ln (t + 1) = 6 := (sw_tw1 h 0 (by decide)).2
theorem sw_tk2 {t : Nat} (h : sw_kd t = 4) : sw_kd (t + 2) = 8 := (sw_tw1 h 1 (by decide)).1
theorem sw_tn2 {t : Nat} (h : sw_kd t = 4) : sw_ln (t + 2) = 6 := (sw_tw1 h 1 (by decide)).2
theorem sw_tk3 {t : Nat} (h : sw_kd t = 4) : sw_kd (t + 3) = 8 := (sw_tw1 h 2 (by decide)).1
theorem sw_tn3 {t : Nat} (h : sw_kd t = 4) : sw_ln (t + 3) = 6 := (sw_tw1 h 2 (by decide)).2
theorem sw_tk4 {t : Nat} (h : sw_kd t = 4) : sw_kd (t + 4) = 8 := (sw_tw1 h 3 (by decide)).1
theorem sw_tn4 {t : Nat} (h : sw_kd t = 4) : sw_ln (t + 4) = 6 := (sw_tw1 h 3 (by decide)).2
theorem sw_tk5 {t : Nat} (h : sw_kd t = 4) : sw_kd (t + 5) = 8 := (sw_tw1 h 4 (by decide)).1
theorem sw_tn5 {t : Nat} (h : sw_kd t = 4) : sw_ln (t + 5) = 40 := (sw_tw1 h 4 (by decide)).2
theorem sw_tk6 {t : Nat} (h : sw_kd t = 4) : sw_kd (t + 6) = 8 := (sw_tw1 h 5 (by decide)).1
theorem sw_tn6 {t : Nat} (h : sw_kd t = 4) : sw_ln (t + 6) = 40 := (sw_tw1 h 5 (by decide)).2
theorem sw_rk {i : Int32} (h : vp_in i 6) : sw_kd (2 + i.toNatClampNeg) = 8 := by
  have h1 : i.toNatClampNeg < 6 := Nat.not_le.mp fun q => h (Or.inr q)
  generalize i.toNatClampNeg = j at h1 ⊢
  exact (by decide : ∀ j : Fin 6, sw_kd (2 + j.val) = 8) ⟨j, h1⟩
theorem sw_rn {i : Int32} (h : vp_in i 6) : sw_ln (2 + i.toNatClampNeg) = 40 := by
  have h1 : i.toNatClampNeg < 6 := Nat.not_le.mp fun q => h (Or.inr q)
  generalize i.toNatClampNeg = j at h1 ⊢
  exact (by decide : ∀ j : Fin 6, sw_ln (2 + j.val) = 40) ⟨j, h1⟩
theorem sw_xk {i : Int32} (h : vp_in i 4) : sw_kd (10 + i.toNatClampNeg) = 7 := by
  have h1 : i.toNatClampNeg < 4 := Nat.not_le.mp fun q => h (Or.inr q)
  generalize i.toNatClampNeg = j at h1 ⊢
  exact (by decide : ∀ j : Fin 4, sw_kd (10 + j.val) = 7) ⟨j, h1⟩
theorem sw_xn {i : Int32} (h : vp_in i 4) : sw_ln (10 + i.toNatClampNeg) = 60 := by
  have h1 : i.toNatClampNeg < 4 := Nat.not_le.mp fun q => h (Or.inr q)
  generalize i.toNatClampNeg = j at h1 ⊢
  exact (by decide : ∀ j : Fin 4, sw_ln (10 + j.val) = 60) ⟨j, h1⟩
theorem sw_kk {i : Int32} (h : vp_in i 3) : sw_kd (30 + 7 * i.toNatClampNeg) = 4 := by
  have h1 : i.toNatClampNeg < 3 := Nat.not_le.mp fun q => h (Or.inr q)
  generalize i.toNatClampNeg = j at h1 ⊢
  exact (by decide : ∀ j : Fin 3, sw_kd (30 + 7 * j.val) = 4) ⟨j, h1⟩
def bo {α β : Type} (o : Option α) (k : α → Option β) : Option β := match o with
  | none => none
  | some a => k a
theorem bo_E {α β : Type} {o : Option α} {k : α → Option β} {r : β} (h : bo o k = some r) : ∃ a, o = some a ∧ k a = some r := by
  cases o with
  | none => cases h
  | some a => exact ⟨a, rfl, h⟩
def lz1 {A1 β : Type} (body : (A1 → Option β) → A1 → Option β) : Nat → A1 → Option β
  | 0, _ => none
  | n + 1, x1 => body (lz1 body n) x1
theorem lz1_I {A1 β : Type} {body : (A1 → Option β) → A1 → Option β} {r : β} (G : A1 → Prop) (hs : ∀ (f : A1 → Option β), (∀ (x1 : A1), f x1 = some r → G x1) → ∀ (x1 : A1), body f x1 = some r → G x1) : ∀ (n : Nat) (x1 : A1), lz1 body n x1 = some r → G x1
  | 0, _, h => by cases h
  | n + 1, x1, h => hs (lz1 body n) (lz1_I G hs n) x1 h
theorem lz1_E {A1 β : Type} {body : (A1 → Option β) → A1 → Option β} {r : β} {n : Nat} {x1 : A1} (G : A1 → Prop) (h : lz1 body n x1 = some r) (hs : ∀ (f : A1 → Option β), (∀ (x1 : A1), f x1 = some r → G x1) → ∀ (x1 : A1), body f x1 = some r → G x1) : G x1 := lz1_I G hs n x1 h
def lz2 {A1 A2 β : Type} (body : (A1 → A2 → Option β) → A1 → A2 → Option β) : Nat → A1 → A2 → Option β
  | 0, _, _ => none
  | n + 1, x1, x2 => body (lz2 body n) x1 x2
theorem lz2_I {A1 A2 β : Type} {body : (A1 → A2 → Option β) → A1 → A2 → Option β} {r : β} (G : A1 → A2 → Prop) (hs : ∀ (f : A1 → A2 → Option β), (∀ (x1 : A1) (x2 : A2), f x1 x2 = some r → G x1 x2) → ∀ (x1 : A1) (x2 : A2), body f x1 x2 = some r → G x1 x2) : ∀ (n : Nat) (x1 : A1) (x2 : A2), lz2 body n x1 x2 = some r → G x1 x2
  | 0, _, _, h => by cases h
  | n + 1, x1, x2, h => hs (lz2 body n) (lz2_I G hs n) x1 x2 h
theorem lz2_E {A1 A2 β : Type} {body : (A1 → A2 → Option β) → A1 → A2 → Option β} {r : β} {n : Nat} {x1 : A1} {x2 : A2} (G : A1 → A2 → Prop) (h : lz2 body n x1 x2 = some r) (hs : ∀ (f : A1 → A2 → Option β), (∀ (x1 : A1) (x2 : A2), f x1 x2 = some r → G x1 x2) → ∀ (x1 : A1) (x2 : A2), body f x1 x2 = some r → G x1 x2) : G x1 x2 := lz2_I G hs n x1 x2 h
def lz3 {A1 A2 A3 β : Type} (body : (A1 → A2 → A3 → Option β) → A1 → A2 → A3 → Option β) : Nat → A1 → A2 → A3 → Option β
  | 0, _, _, _ => none
  | n + 1, x1, x2, x3 => body (lz3 body n) x1 x2 x3
theorem lz3_I {A1 A2 A3 β : Type} {body : (A1 → A2 → A3 → Option β) → A1 → A2 → A3 → Option β} {r : β} (G : A1 → A2 → A3 → Prop) (hs : ∀ (f : A1 → A2 → A3 → Option β), (∀ (x1 : A1) (x2 : A2) (x3 : A3), f x1 x2 x3 = some r → G x1 x2 x3) → ∀ (x1 : A1) (x2 : A2) (x3 : A3), body f x1 x2 x3 = some r → G x1 x2 x3) : ∀ (n : Nat) (x1 : A1) (x2 : A2) (x3 : A3), lz3 body n x1 x2 x3 = some r → G x1 x2 x3
  | 0, _, _, _, h => by cases h
  | n + 1, x1, x2, x3, h => hs (lz3 body n) (lz3_I G hs n) x1 x2 x3 h
theorem lz3_E {A1 A2 A3 β : Type} {body : (A1 → A2 → A3 → Option β) → A1 → A2 → A3 → Option β} {r : β} {n : Nat} {x1 : A1} {x2 : A2} {x3 : A3} (G : A1 → A2 → A3 → Prop) (h : lz3 body n x1 x2 x3 = some r) (hs : ∀ (f : A1 → A2 → A3 → Option β), (∀ (x1 : A1) (x2 : A2) (x3 : A3), f x1 x2 x3 = some r → G x1 x2 x3) → ∀ (x1 : A1) (x2 : A2) (x3 : A3), body f x1 x2 x3 = some r → G x1 x2 x3) : G x1 x2 x3 := lz3_I G hs n x1 x2 x3 h
def lz4 {A1 A2 A3 A4 β : Type} (body : (A1 → A2 → A3 → A4 → Option β) → A1 → A2 → A3 → A4 → Option β) : Nat → A1 → A2 → A3 → A4 → Option β
  | 0, _, _, _, _ => none
  | n + 1, x1, x2, x3, x4 => body (lz4 body n) x1 x2 x3 x4
theorem lz4_I {A1 A2 A3 A4 β : Type} {body : (A1 → A2 → A3 → A4 → Option β) → A1 → A2 → A3 → A4 → Option β} {r : β} (G : A1 → A2 → A3 → A4 → Prop) (hs : ∀ (f : A1 → A2 → A3 → A4 → Option β), (∀ (x1 : A1) (x2 : A2) (x3 : A3) (x4 : A4), f x1 x2 x3 x4 = some r → G x1 x2 x3 x4) → ∀ (x1 : A1) (x2 : A2) (x3 : A3) (x4 : A4), body f x1 x2 x3 x4 = some r → G x1 x2 x3 x4) : ∀ (n : Nat) (x1 : A1) (x2 : A2) (x3 : A3) (x4 : A4), lz4 body n x1 x2 x3 x4 = some r → G x1 x2 x3 x4
  | 0, _, _, _, _, h => by cases h
  | n + 1, x1, x2, x3, x4, h => hs (lz4 body n) (lz4_I G hs n) x1 x2 x3 x4 h
theorem lz4_E {A1 A2 A3 A4 β : Type} {body : (A1 → A2 → A3 → A4 → Option β) → A1 → A2 → A3 → A4 → Option β} {r : β} {n : Nat} {x1 : A1} {x2 : A2} {x3 : A3} {x4 : A4} (G : A1 → A2 → A3 → A4 → Prop) (h : lz4 body n x1 x2 x3 x4 = some r) (hs : ∀ (f : A1 → A2 → A3 → A4 → Option β), (∀ (x1 : A1) (x2 : A2) (x3 : A3) (x4 : A4), f x1 x2 x3 x4 = some r → G x1 x2 x3 x4) → ∀ (x1 : A1) (x2 : A2) (x3 : A3) (x4 : A4), body f x1 x2 x3 x4 = some r → G x1 x2 x3 x4) : G x1 x2 x3 x4 := lz4_I G hs n x1 x2 x3 x4 h
def lz5 {A1 A2 A3 A4 A5 β : Type} (body : (A1 → A2 → A3 → A4 → A5 → Option β) → A1 → A2 → A3 → A4 → A5 → Option β) : Nat → A1 → A2 → A3 → A4 → A5 → Option β
  | 0, _, _, _, _, _ => none
  | n + 1, x1, x2, x3, x4, x5 => body (lz5 body n) x1 x2 x3 x4 x5
theorem lz5_I {A1 A2 A3 A4 A5 β : Type} {body : (A1 → A2 → A3 → A4 → A5 → Option β) → A1 → A2 → A3 → A4 → A5 → Option β} {r : β} (G : A1 → A2 → A3 → A4 → A5 → Prop) (hs : ∀ (f : A1 → A2 → A3 → A4 → A5 → Option β), (∀ (x1 : A1) (x2 : A2) (x3 : A3) (x4 : A4) (x5 : A5), f x1 x2 x3 x4 x5 = some r → G x1 x2 x3 x4 x5) → ∀ (x1 : A1) (x2 : A2) (x3 : A3) (x4 : A4) (x5 : A5), body f x1 x2 x3 x4 x5 = some r → G x1 x2 x3 x4 x5) : ∀ (n : Nat) (x1 : A1) (x2 : A2) (x3 : A3) (x4 : A4) (x5 : A5), lz5 body n x1 x2 x3 x4 x5 = some r → G x1 x2 x3 x4 x5
  | 0, _, _, _, _, _, h => by cases h
  | n + 1, x1, x2, x3, x4, x5, h => hs (lz5 body n) (lz5_I G hs n) x1 x2 x3 x4 x5 h
theorem lz5_E {A1 A2 A3 A4 A5 β : Type} {body : (A1 → A2 → A3 → A4 → A5 → Option β) → A1 → A2 → A3 → A4 → A5 → Option β} {r : β} {n : Nat} {x1 : A1} {x2 : A2} {x3 : A3} {x4 : A4} {x5 : A5} (G : A1 → A2 → A3 → A4 → A5 → Prop) (h : lz5 body n x1 x2 x3 x4 x5 = some r) (hs : ∀ (f : A1 → A2 → A3 → A4 → A5 → Option β), (∀ (x1 : A1) (x2 : A2) (x3 : A3) (x4 : A4) (x5 : A5), f x1 x2 x3 x4 x5 = some r → G x1 x2 x3 x4 x5) → ∀ (x1 : A1) (x2 : A2) (x3 : A3) (x4 : A4) (x5 : A5), body f x1 x2 x3 x4 x5 = some r → G x1 x2 x3 x4 x5) : G x1 x2 x3 x4 x5 := lz5_I G hs n x1 x2 x3 x4 x5 h
def lz6 {A1 A2 A3 A4 A5 A6 β : Type} (body : (A1 → A2 → A3 → A4 → A5 → A6 → Option β) → A1 → A2 → A3 → A4 → A5 → A6 → Option β) : Nat → A1 → A2 → A3 → A4 → A5 → A6 → Option β
  | 0, _, _, _, _, _, _ => none
  | n + 1, x1, x2, x3, x4, x5, x6 => body (lz6 body n) x1 x2 x3 x4 x5 x6
theorem lz6_I {A1 A2 A3 A4 A5 A6 β : Type} {body : (A1 → A2 → A3 → A4 → A5 → A6 → Option β) → A1 → A2 → A3 → A4 → A5 → A6 → Option β} {r : β} (G : A1 → A2 → A3 → A4 → A5 → A6 → Prop) (hs : ∀ (f : A1 → A2 → A3 → A4 → A5 → A6 → Option β), (∀ (x1 : A1) (x2 : A2) (x3 : A3) (x4 : A4) (x5 : A5) (x6 : A6), f x1 x2 x3 x4 x5 x6 = some r → G x1 x2 x3 x4 x5 x6) → ∀ (x1 : A1) (x2 : A2) (x3 : A3) (x4 : A4) (x5 : A5) (x6 : A6), body f x1 x2 x3 x4 x5 x6 = some r → G x1 x2 x3 x4 x5 x6) : ∀ (n : Nat) (x1 : A1) (x2 : A2) (x3 : A3) (x4 : A4) (x5 : A5) (x6 : A6), lz6 body n x1 x2 x3 x4 x5 x6 = some r → G x1 x2 x3 x4 x5 x6
  | 0, _, _, _, _, _, _, h => by cases h
  | n + 1, x1, x2, x3, x4, x5, x6, h => hs (lz6 body n) (lz6_I G hs n) x1 x2 x3 x4 x5 x6 h
theorem lz6_E {A1 A2 A3 A4 A5 A6 β : Type} {body : (A1 → A2 → A3 → A4 → A5 → A6 → Option β) → A1 → A2 → A3 → A4 → A5 → A6 → Option β} {r : β} {n : Nat} {x1 : A1} {x2 : A2} {x3 : A3} {x4 : A4} {x5 : A5} {x6 : A6} (G : A1 → A2 → A3 → A4 → A5 → A6 → Prop) (h : lz6 body n x1 x2 x3 x4 x5 x6 = some r) (hs : ∀ (f : A1 → A2 → A3 → A4 → A5 → A6 → Option β), (∀ (x1 : A1) (x2 : A2) (x3 : A3) (x4 : A4) (x5 : A5) (x6 : A6), f x1 x2 x3 x4 x5 x6 = some r → G x1 x2 x3 x4 x5 x6) → ∀ (x1 : A1) (x2 : A2) (x3 : A3) (x4 : A4) (x5 : A5) (x6 : A6), body f x1 x2 x3 x4 x5 x6 = some r → G x1 x2 x3 x4 x5 x6) : G x1 x2 x3 x4 x5 x6 := lz6_I G hs n x1 x2 x3 x4 x5 x6 h
def lz7 {A1 A2 A3 A4 A5 A6 A7 β : Type} (body : (A1 → A2 → A3 → A4 → A5 → A6 → A7 → Option β) → A1 → A2 → A3 → A4 → A5 → A6 → A7 → Option β) : Nat → A1 → A2 → A3 → A4 → A5 → A6 → A7 → Option β
  | 0, _, _, _, _, _, _, _ => none
  | n + 1, x1, x2, x3, x4, x5, x6, x7 => body (lz7 body n) x1 x2 x3 x4 x5 x6 x7
theorem lz7_I {A1 A2 A3 A4 A5 A6 A7 β : Type} {body : (A1 → A2 → A3 → A4 → A5 → A6 → A7 → Option β) → A1 → A2 → A3 → A4 → A5 → A6 → A7 → Option β} {r : β} (G : A1 → A2 → A3 → A4 → A5 → A6 → A7 → Prop) (hs : ∀ (f : A1 → A2 → A3 → A4 → A5 → A6 → A7 → Option β), (∀ (x1 : A1) (x2 : A2) (x3 : A3) (x4 : A4) (x5 : A5) (x6 : A6) (x7 : A7), f x1 x2 x3 x4 x5 x6 x7 = some r → G x1 x2 x3 x4 x5 x6 x7) → ∀ (x1 : A1) (x2 : A2) (x3 : A3) (x4 : A4) (x5 : A5) (x6 : A6) (x7 : A7), body f x1 x2 x3 x4 x5 x6 x7 = some r → G x1 x2 x3 x4 x5 x6 x7) : ∀ (n : Nat) (x1 : A1) (x2 : A2) (x3 : A3) (x4 : A4) (x5 : A5) (x6 : A6) (x7 : A7), lz7 body n x1 x2 x3 x4 x5 x6 x7 = some r → G x1 x2 x3 x4 x5 x6 x7
  | 0, _, _, _, _, _, _, _, h => by cases h
  | n + 1, x1, x2, x3, x4, x5, x6, x7, h => hs (lz7 body n) (lz7_I G hs n) x1 x2 x3 x4 x5 x6 x7 h
theorem lz7_E {A1 A2 A3 A4 A5 A6 A7 β : Type} {body : (A1 → A2 → A3 → A4 → A5 → A6 → A7 → Option β) → A1 → A2 → A3 → A4 → A5 → A6 → A7 → Option β} {r : β} {n : Nat} {x1 : A1} {x2 : A2} {x3 : A3} {x4 : A4} {x5 : A5} {x6 : A6} {x7 : A7} (G : A1 → A2 → A3 → A4 → A5 → A6 → A7 → Prop) (h : lz7 body n x1 x2 x3 x4 x5 x6 x7 = some r) (hs : ∀ (f : A1 → A2 → A3 → A4 → A5 → A6 → A7 → Option β), (∀ (x1 : A1) (x2 : A2) (x3 : A3) (x4 : A4) (x5 : A5) (x6 : A6) (x7 : A7), f x1 x2 x3 x4 x5 x6 x7 = some r → G x1 x2 x3 x4 x5 x6 x7) → ∀ (x1 : A1) (x2 : A2) (x3 : A3) (x4 : A4) (x5 : A5) (x6 : A6) (x7 : A7), body f x1 x2 x3 x4 x5 x6 x7 = some r → G x1 x2 x3 x4 x5 x6 x7) : G x1 x2 x3 x4 x5 x6 x7 := lz7_I G hs n x1 x2 x3 x4 x5 x6 x7 h
def lz8 {A1 A2 A3 A4 A5 A6 A7 A8 β : Type} (body : (A1 → A2 → A3 → A4 → A5 → A6 → A7 → A8 → Option β) → A1 → A2 → A3 → A4 → A5 → A6 → A7 → A8 → Option β) : Nat → A1 → A2 → A3 → A4 → A5 → A6 → A7 → A8 → Option β
  | 0, _, _, _, _, _, _, _, _ => none
  | n + 1, x1, x2, x3, x4, x5, x6, x7, x8 => body (lz8 body n) x1 x2 x3 x4 x5 x6 x7 x8
theorem lz8_I {A1 A2 A3 A4 A5 A6 A7 A8 β : Type} {body : (A1 → A2 → A3 → A4 → A5 → A6 → A7 → A8 → Option β) → A1 → A2 → A3 → A4 → A5 → A6 → A7 → A8 → Option β} {r : β} (G : A1 → A2 → A3 → A4 → A5 → A6 → A7 → A8 → Prop) (hs : ∀ (f : A1 → A2 → A3 → A4 → A5 → A6 → A7 → A8 → Option β), (∀ (x1 : A1) (x2 : A2) (x3 : A3) (x4 : A4) (x5 : A5) (x6 : A6) (x7 : A7) (x8 : A8), f x1 x2 x3 x4 x5 x6 x7 x8 = some r → G x1 x2 x3 x4 x5 x6 x7 x8) → ∀ (x1 : A1) (x2 : A2) (x3 : A3) (x4 : A4) (x5 : A5) (x6 : A6) (x7 : A7) (x8 : A8), body f x1 x2 x3 x4 x5 x6 x7 x8 = some r → G x1 x2 x3 x4 x5 x6 x7 x8) : ∀ (n : Nat) (x1 : A1) (x2 : A2) (x3 : A3) (x4 : A4) (x5 : A5) (x6 : A6) (x7 : A7) (x8 : A8), lz8 body n x1 x2 x3 x4 x5 x6 x7 x8 = some r → G x1 x2 x3 x4 x5 x6 x7 x8
  | 0, _, _, _, _, _, _, _, _, h => by cases h
  | n + 1, x1, x2, x3, x4, x5, x6, x7, x8, h => hs (lz8 body n) (lz8_I G hs n) x1 x2 x3 x4 x5 x6 x7 x8 h
theorem lz8_E {A1 A2 A3 A4 A5 A6 A7 A8 β : Type} {body : (A1 → A2 → A3 → A4 → A5 → A6 → A7 → A8 → Option β) → A1 → A2 → A3 → A4 → A5 → A6 → A7 → A8 → Option β} {r : β} {n : Nat} {x1 : A1} {x2 : A2} {x3 : A3} {x4 : A4} {x5 : A5} {x6 : A6} {x7 : A7} {x8 : A8} (G : A1 → A2 → A3 → A4 → A5 → A6 → A7 → A8 → Prop) (h : lz8 body n x1 x2 x3 x4 x5 x6 x7 x8 = some r) (hs : ∀ (f : A1 → A2 → A3 → A4 → A5 → A6 → A7 → A8 → Option β), (∀ (x1 : A1) (x2 : A2) (x3 : A3) (x4 : A4) (x5 : A5) (x6 : A6) (x7 : A7) (x8 : A8), f x1 x2 x3 x4 x5 x6 x7 x8 = some r → G x1 x2 x3 x4 x5 x6 x7 x8) → ∀ (x1 : A1) (x2 : A2) (x3 : A3) (x4 : A4) (x5 : A5) (x6 : A6) (x7 : A7) (x8 : A8), body f x1 x2 x3 x4 x5 x6 x7 x8 = some r → G x1 x2 x3 x4 x5 x6 x7 x8) : G x1 x2 x3 x4 x5 x6 x7 x8 := lz8_I G hs n x1 x2 x3 x4 x5 x6 x7 x8 h
def lz9 {A1 A2 A3 A4 A5 A6 A7 A8 A9 β : Type} (body : (A1 → A2 → A3 → A4 → A5 → A6 → A7 → A8 → A9 → Option β) → A1 → A2 → A3 → A4 → A5 → A6 → A7 → A8 → A9 → Option β) : Nat → A1 → A2 → A3 → A4 → A5 → A6 → A7 → A8 → A9 → Option β
  | 0, _, _, _, _, _, _, _, _, _ => none
  | n + 1, x1, x2, x3, x4, x5, x6, x7, x8, x9 => body (lz9 body n) x1 x2 x3 x4 x5 x6 x7 x8 x9
theorem lz9_I {A1 A2 A3 A4 A5 A6 A7 A8 A9 β : Type} {body : (A1 → A2 → A3 → A4 → A5 → A6 → A7 → A8 → A9 → Option β) → A1 → A2 → A3 → A4 → A5 → A6 → A7 → A8 → A9 → Option β} {r : β} (G : A1 → A2 → A3 → A4 → A5 → A6 → A7 → A8 → A9 → Prop) (hs : ∀ (f : A1 → A2 → A3 → A4 → A5 → A6 → A7 → A8 → A9 → Option β), (∀ (x1 : A1) (x2 : A2) (x3 : A3) (x4 : A4) (x5 : A5) (x6 : A6) (x7 : A7) (x8 : A8) (x9 : A9), f x1 x2 x3 x4 x5 x6 x7 x8 x9 = some r → G x1 x2 x3 x4 x5 x6 x7 x8 x9) → ∀ (x1 : A1) (x2 : A2) (x3 : A3) (x4 : A4) (x5 : A5) (x6 : A6) (x7 : A7) (x8 : A8) (x9 : A9), body f x1 x2 x3 x4 x5 x6 x7 x8 x9 = some r → G x1 x2 x3 x4 x5 x6 x7 x8 x9) : ∀ (n : Nat) (x1 : A1) (x2 : A2) (x3 : A3) (x4 : A4) (x5 : A5) (x6 : A6) (x7 : A7) (x8 : A8) (x9 : A9), lz9 body n x1 x2 x3 x4 x5 x6 x7 x8 x9 = some r → G x1 x2 x3 x4 x5 x6 x7 x8 x9
  | 0, _, _, _, _, _, _, _, _, _, h => by cases h
  | n + 1, x1, x2, x3, x4, x5, x6, x7, x8, x9, h => hs (lz9 body n) (lz9_I G hs n) x1 x2 x3 x4 x5 x6 x7 x8 x9 h
theorem lz9_E {A1 A2 A3 A4 A5 A6 A7 A8 A9 β : Type} {body : (A1 → A2 → A3 → A4 → A5 → A6 → A7 → A8 → A9 → Option β) → A1 → A2 → A3 → A4 → A5 → A6 → A7 → A8 → A9 → Option β} {r : β} {n : Nat} {x1 : A1} {x2 : A2} {x3 : A3} {x4 : A4} {x5 : A5} {x6 : A6} {x7 : A7} {x8 : A8} {x9 : A9} (G : A1 → A2 → A3 → A4 → A5 → A6 → A7 → A8 → A9 → Prop) (h : lz9 body n x1 x2 x3 x4 x5 x6 x7 x8 x9 = some r) (hs : ∀ (f : A1 → A2 → A3 → A4 → A5 → A6 → A7 → A8 → A9 → Option β), (∀ (x1 : A1) (x2 : A2) (x3 : A3) (x4 : A4) (x5 : A5) (x6 : A6) (x7 : A7) (x8 : A8) (x9 : A9), f x1 x2 x3 x4 x5 x6 x7 x8 x9 = some r → G x1 x2 x3 x4 x5 x6 x7 x8 x9) → ∀ (x1 : A1) (x2 : A2) (x3 : A3) (x4 : A4) (x5 : A5) (x6 : A6) (x7 : A7) (x8 : A8) (x9 : A9), body f x1 x2 x3 x4 x5 x6 x7 x8 x9 = some r → G x1 x2 x3 x4 x5 x6 x7 x8 x9) : G x1 x2 x3 x4 x5 x6 x7 x8 x9 := lz9_I G hs n x1 x2 x3 x4 x5 x6 x7 x8 x9 h
theorem jn0_E { β : Type} {k : Option β} {body : (Option β) → Option β} {r : β} {G : Prop} (T : Prop) (h : jn k body = some r) (ht : k  = some r → T ) (hb : ∀ f : Option β, (f  = some r → T ) → body f = some r → G) : G := hb k ht h
theorem jn1_E {A1 β : Type} {k : A1 → Option β} {body : (A1 → Option β) → Option β} {r : β} {G : Prop} (T : A1 → Prop) (h : jn k body = some r) (ht : ∀ (x1 : A1), k x1 = some r → T x1) (hb : ∀ f : A1 → Option β, (∀ (x1 : A1), f x1 = some r → T x1) → body f = some r → G) : G := hb k ht h
theorem jn2_E {A1 A2 β : Type} {k : A1 → A2 → Option β} {body : (A1 → A2 → Option β) → Option β} {r : β} {G : Prop} (T : A1 → A2 → Prop) (h : jn k body = some r) (ht : ∀ (x1 : A1) (x2 : A2), k x1 x2 = some r → T x1 x2) (hb : ∀ f : A1 → A2 → Option β, (∀ (x1 : A1) (x2 : A2), f x1 x2 = some r → T x1 x2) → body f = some r → G) : G := hb k ht h
theorem jn3_E {A1 A2 A3 β : Type} {k : A1 → A2 → A3 → Option β} {body : (A1 → A2 → A3 → Option β) → Option β} {r : β} {G : Prop} (T : A1 → A2 → A3 → Prop) (h : jn k body = some r) (ht : ∀ (x1 : A1) (x2 : A2) (x3 : A3), k x1 x2 x3 = some r → T x1 x2 x3) (hb : ∀ f : A1 → A2 → A3 → Option β, (∀ (x1 : A1) (x2 : A2) (x3 : A3), f x1 x2 x3 = some r → T x1 x2 x3) → body f = some r → G) : G := hb k ht h
theorem jn4_E {A1 A2 A3 A4 β : Type} {k : A1 → A2 → A3 → A4 → Option β} {body : (A1 → A2 → A3 → A4 → Option β) → Option β} {r : β} {G : Prop} (T : A1 → A2 → A3 → A4 → Prop) (h : jn k body = some r) (ht : ∀ (x1 : A1) (x2 : A2) (x3 : A3) (x4 : A4), k x1 x2 x3 x4 = some r → T x1 x2 x3 x4) (hb : ∀ f : A1 → A2 → A3 → A4 → Option β, (∀ (x1 : A1) (x2 : A2) (x3 : A3) (x4 : A4), f x1 x2 x3 x4 = some r → T x1 x2 x3 x4) → body f = some r → G) : G := hb k ht h
theorem jn5_E {A1 A2 A3 A4 A5 β : Type} {k : A1 → A2 → A3 → A4 → A5 → Option β} {body : (A1 → A2 → A3 → A4 → A5 → Option β) → Option β} {r : β} {G : Prop} (T : A1 → A2 → A3 → A4 → A5 → Prop) (h : jn k body = some r) (ht : ∀ (x1 : A1) (x2 : A2) (x3 : A3) (x4 : A4) (x5 : A5), k x1 x2 x3 x4 x5 = some r → T x1 x2 x3 x4 x5) (hb : ∀ f : A1 → A2 → A3 → A4 → A5 → Option β, (∀ (x1 : A1) (x2 : A2) (x3 : A3) (x4 : A4) (x5 : A5), f x1 x2 x3 x4 x5 = some r → T x1 x2 x3 x4 x5) → body f = some r → G) : G := hb k ht h
theorem jn6_E {A1 A2 A3 A4 A5 A6 β : Type} {k : A1 → A2 → A3 → A4 → A5 → A6 → Option β} {body : (A1 → A2 → A3 → A4 → A5 → A6 → Option β) → Option β} {r : β} {G : Prop} (T : A1 → A2 → A3 → A4 → A5 → A6 → Prop) (h : jn k body = some r) (ht : ∀ (x1 : A1) (x2 : A2) (x3 : A3) (x4 : A4) (x5 : A5) (x6 : A6), k x1 x2 x3 x4 x5 x6 = some r → T x1 x2 x3 x4 x5 x6) (hb : ∀ f : A1 → A2 → A3 → A4 → A5 → A6 → Option β, (∀ (x1 : A1) (x2 : A2) (x3 : A3) (x4 : A4) (x5 : A5) (x6 : A6), f x1 x2 x3 x4 x5 x6 = some r → T x1 x2 x3 x4 x5 x6) → body f = some r → G) : G := hb k ht h
theorem jn7_E {A1 A2 A3 A4 A5 A6 A7 β : Type} {k : A1 → A2 → A3 → A4 → A5 → A6 → A7 → Option β} {body : (A1 → A2 → A3 → A4 → A5 → A6 → A7 → Option β) → Option β} {r : β} {G : Prop} (T : A1 → A2 → A3 → A4 → A5 → A6 → A7 → Prop) (h : jn k body = some r) (ht : ∀ (x1 : A1) (x2 : A2) (x3 : A3) (x4 : A4) (x5 : A5) (x6 : A6) (x7 : A7), k x1 x2 x3 x4 x5 x6 x7 = some r → T x1 x2 x3 x4 x5 x6 x7) (hb : ∀ f : A1 → A2 → A3 → A4 → A5 → A6 → A7 → Option β, (∀ (x1 : A1) (x2 : A2) (x3 : A3) (x4 : A4) (x5 : A5) (x6 : A6) (x7 : A7), f x1 x2 x3 x4 x5 x6 x7 = some r → T x1 x2 x3 x4 x5 x6 x7) → body f = some r → G) : G := hb k ht h
theorem jn8_E {A1 A2 A3 A4 A5 A6 A7 A8 β : Type} {k : A1 → A2 → A3 → A4 → A5 → A6 → A7 → A8 → Option β} {body : (A1 → A2 → A3 → A4 → A5 → A6 → A7 → A8 → Option β) → Option β} {r : β} {G : Prop} (T : A1 → A2 → A3 → A4 → A5 → A6 → A7 → A8 → Prop) (h : jn k body = some r) (ht : ∀ (x1 : A1) (x2 : A2) (x3 : A3) (x4 : A4) (x5 : A5) (x6 : A6) (x7 : A7) (x8 : A8), k x1 x2 x3 x4 x5 x6 x7 x8 = some r → T x1 x2 x3 x4 x5 x6 x7 x8) (hb : ∀ f : A1 → A2 → A3 → A4 → A5 → A6 → A7 → A8 → Option β, (∀ (x1 : A1) (x2 : A2) (x3 : A3) (x4 : A4) (x5 : A5) (x6 : A6) (x7 : A7) (x8 : A8), f x1 x2 x3 x4 x5 x6 x7 x8 = some r → T x1 x2 x3 x4 x5 x6 x7 x8) → body f = some r → G) : G := hb k ht h
theorem jn9_E {A1 A2 A3 A4 A5 A6 A7 A8 A9 β : Type} {k : A1 → A2 → A3 → A4 → A5 → A6 → A7 → A8 → A9 → Option β} {body : (A1 → A2 → A3 → A4 → A5 → A6 → A7 → A8 → A9 → Option β) → Option β} {r : β} {G : Prop} (T : A1 → A2 → A3 → A4 → A5 → A6 → A7 → A8 → A9 → Prop) (h : jn k body = some r) (ht : ∀ (x1 : A1) (x2 : A2) (x3 : A3) (x4 : A4) (x5 : A5) (x6 : A6) (x7 : A7) (x8 : A8) (x9 : A9), k x1 x2 x3 x4 x5 x6 x7 x8 x9 = some r → T x1 x2 x3 x4 x5 x6 x7 x8 x9) (hb : ∀ f : A1 → A2 → A3 → A4 → A5 → A6 → A7 → A8 → A9 → Option β, (∀ (x1 : A1) (x2 : A2) (x3 : A3) (x4 : A4) (x5 : A5) (x6 : A6) (x7 : A7) (x8 : A8) (x9 : A9), f x1 x2 x3 x4 x5 x6 x7 x8 x9 = some r → T x1 x2 x3 x4 x5 x6 x7 x8 x9) → body f = some r → G) : G := hb k ht h
end
section
theorem dJ7_fill_53178_0 : decode cJ7_fill_53178 0 = .ok (.iconst 0, 1) := by decide +kernel
theorem dJ7_fill_53178_1 : decode cJ7_fill_53178 1 = .ok (.istore_n 2, 1) := by decide +kernel
theorem dJ7_fill_53178_2 : decode cJ7_fill_53178 2 = .ok (.aload_n 0, 1) := by decide +kernel
theorem dJ7_fill_53178_3 : decode cJ7_fill_53178 3 = .ok (.arraylength, 1) := by decide +kernel
theorem dJ7_fill_53178_4 : decode cJ7_fill_53178 4 = .ok (.istore_n 3, 1) := by decide +kernel
theorem dJ7_fill_53178_5 : decode cJ7_fill_53178 5 = .ok (.iload_n 2, 1) := by decide +kernel
theorem dJ7_fill_53178_6 : decode cJ7_fill_53178 6 = .ok (.iload_n 3, 1) := by decide +kernel
theorem dJ7_fill_53178_7 : decode cJ7_fill_53178 7 = .ok (.if_icmp .ge 13, 3) := by decide +kernel
theorem dJ7_fill_53178_10 : decode cJ7_fill_53178 10 = .ok (.aload_n 0, 1) := by decide +kernel
theorem dJ7_fill_53178_11 : decode cJ7_fill_53178 11 = .ok (.iload_n 2, 1) := by decide +kernel
theorem dJ7_fill_53178_12 : decode cJ7_fill_53178 12 = .ok (.iload_n 1, 1) := by decide +kernel
theorem dJ7_fill_53178_13 : decode cJ7_fill_53178 13 = .ok (.iastore, 1) := by decide +kernel
theorem dJ7_fill_53178_14 : decode cJ7_fill_53178 14 = .ok (.iinc 2 1, 3) := by decide +kernel
theorem dJ7_fill_53178_17 : decode cJ7_fill_53178 17 = .ok (.goto (-12), 3) := by decide +kernel
theorem dJ7_fill_53178_20 : decode cJ7_fill_53178 20 = .ok (.return_, 1) := by decide +kernel
def j_J7_fill_53178 (F : Nat) (a : Nat) (a2 : Int32) (st : sw_St) : Option (Unit × sw_St) :=
nm (nI (sw_ln a)) (fun (x1 : Int32) =>
lz2 (fun f4 (x2 : Int32) (s3 : sw_St) =>
 (if x1 ≤ x2 then (
  some ((), s3))
 else (
  bnd x2 (sw_ln a) (
  nm (sw_setC s3 a (x2 : Int32).toNatClampNeg a2) (fun (s8 : sw_St) =>
  nm (x2 + 1) (fun (x9 : Int32) =>
  f4 x9 s8)))))) F 0 st)
set_option maxHeartbeats 4000000 in
set_option maxRecDepth 100000 in
theorem c_J7_fill_53178 (F : Nat) {a : Nat} (ha : sw_kd a = 8) (a2 : Int32) (st : sw_St) {st1 : sw_St} (h : j_J7_fill_53178 F a a2 st = some ((), st1)) : sw_CV yJ7_fill_53178 (.code yJ7_fill_53178 cJ7_fill_53178 4 none) 1 (fun g => [.ref (g.1 a), .int a2]) st  st1 := by
  refine sw_entV RJ7 (fun g => [(0, .ref (g.1 a)), (1, .int a2)]) (by decide) rfl (fun _ => Nat.le_of_ble_eq_true rfl) (fun _ => rfl) ?_
  intro p l e s m args below meth c g X hr hlk
  unfold j_J7_fill_53178 at h
  refine sw_iconst X (v := 0) (by decide) dJ7_fill_53178_0 ?_
  refine sw_istore_n X [(2, .int 0), (0, .ref (g.1 a)), (1, .int a2)] rfl (by decide) rfl dJ7_fill_53178_1 ?_
  refine sw_aload_n X 1 rfl rfl dJ7_fill_53178_2 ?_
  refine sw_alenI X (show sw_kd a = 8 from ha) dJ7_fill_53178_3 ?_
  refine sw_topi (fun x1 ex1 => ?_)
  have h := nm_E h ex1
  refine sw_istore_n X [(3, .int x1), (2, .int 0), (0, .ref (g.1 a)), (1, .int a2)] rfl (by decide) rfl dJ7_fill_53178_4 ?_
  refine sw_sub [2, 3, 1, 0] rfl ?_
  refine lz2_E (fun (x2 : Int32) (s3 : sw_St) => sw_V p l e 1 s m args below meth c g (sw_A g s.heap.size) (sw_QV below g args s  st1) 4 5 [(0, .ref (g.1 a)), (1, .int a2), (2, .int x2), (3, .int x1)] [] s3) h (fun f4 ih5 x2 s3 h => ?_)
  refine sw_iload_n X 2 rfl rfl dJ7_fill_53178_5 ?_
  refine sw_iload_n X 3 rfl rfl dJ7_fill_53178_6 ?_
  refine sw_icmp_ge X 20 (by decide) dJ7_fill_53178_7 (fun q6 => ?_) (fun q6 => ?_)
  · have h := ite_T h q6
    exact sw_vret X hr hlk dJ7_fill_53178_20 h
  · have h := ite_F h q6
    refine sw_aload_n X 0 rfl rfl dJ7_fill_53178_10 ?_
    refine sw_iload_n X 2 rfl rfl dJ7_fill_53178_11 ?_
    refine sw_iload_n X 1 rfl rfl dJ7_fill_53178_12 ?_
    obtain ⟨q7, h⟩ := bnd_E h
    refine sw_iast X (show sw_kd a = 8 from ha) (n := (sw_ln a)) rfl q7 dJ7_fill_53178_13 (fun s8 es8 => ?_)
    have h := nm_E h es8
    obtain ⟨x9, ex9⟩ : ∃ y : Int32, y = x2 + 1 := ⟨_, rfl⟩
    have h := nm_E h ex9
    refine sw_iinc X 2 x9 [(2, .int x9), (0, .ref (g.1 a)), (1, .int a2), (3, .int x1)] rfl (by rw [ex9]; rfl) (by decide) rfl dJ7_fill_53178_14 ?_
    refine sw_goto X 5 (by decide) dJ7_fill_53178_17 ?_
    refine sw_sub [1, 2, 0, 3] rfl ?_
    exact ih5 _ _ h
theorem dJ6_bitCount_0f7a4_0 : decode cJ6_bitCount_0f7a4 0 = .ok (.iload_n 0, 1) := by decide +kernel
theorem dJ6_bitCount_0f7a4_1 : decode cJ6_bitCount_0f7a4 1 = .ok (.iload_n 0, 1) := by decide +kernel
theorem dJ6_bitCount_0f7a4_2 : decode cJ6_bitCount_0f7a4 2 = .ok (.iconst 1, 1) := by decide +kernel
theorem dJ6_bitCount_0f7a4_3 : decode cJ6_bitCount_0f7a4 3 = .ok (.iushr, 1) := by decide +kernel
theorem dJ6_bitCount_0f7a4_4 : decode cJ6_bitCount_0f7a4 4 = .ok (.ldc_w 265, 3) := by decide +kernel
theorem dJ6_bitCount_0f7a4_7 : decode cJ6_bitCount_0f7a4 7 = .ok (.iand, 1) := by decide +kernel
theorem dJ6_bitCount_0f7a4_8 : decode cJ6_bitCount_0f7a4 8 = .ok (.isub, 1) := by decide +kernel
theorem dJ6_bitCount_0f7a4_9 : decode cJ6_bitCount_0f7a4 9 = .ok (.istore_n 0, 1) := by decide +kernel
theorem dJ6_bitCount_0f7a4_10 : decode cJ6_bitCount_0f7a4 10 = .ok (.iload_n 0, 1) := by decide +kernel
theorem dJ6_bitCount_0f7a4_11 : decode cJ6_bitCount_0f7a4 11 = .ok (.ldc_w 266, 3) := by decide +kernel
theorem dJ6_bitCount_0f7a4_14 : decode cJ6_bitCount_0f7a4 14 = .ok (.iand, 1) := by decide +kernel
theorem dJ6_bitCount_0f7a4_15 : decode cJ6_bitCount_0f7a4 15 = .ok (.iload_n 0, 1) := by decide +kernel
theorem dJ6_bitCount_0f7a4_16 : decode cJ6_bitCount_0f7a4 16 = .ok (.iconst 2, 1) := by decide +kernel
theorem dJ6_bitCount_0f7a4_17 : decode cJ6_bitCount_0f7a4 17 = .ok (.iushr, 1) := by decide +kernel
theorem dJ6_bitCount_0f7a4_18 : decode cJ6_bitCount_0f7a4 18 = .ok (.ldc_w 266, 3) := by decide +kernel
theorem dJ6_bitCount_0f7a4_21 : decode cJ6_bitCount_0f7a4 21 = .ok (.iand, 1) := by decide +kernel
theorem dJ6_bitCount_0f7a4_22 : decode cJ6_bitCount_0f7a4 22 = .ok (.iadd, 1) := by decide +kernel
theorem dJ6_bitCount_0f7a4_23 : decode cJ6_bitCount_0f7a4 23 = .ok (.istore_n 0, 1) := by decide +kernel
theorem dJ6_bitCount_0f7a4_24 : decode cJ6_bitCount_0f7a4 24 = .ok (.iload_n 0, 1) := by decide +kernel
theorem dJ6_bitCount_0f7a4_25 : decode cJ6_bitCount_0f7a4 25 = .ok (.iload_n 0, 1) := by decide +kernel
theorem dJ6_bitCount_0f7a4_26 : decode cJ6_bitCount_0f7a4 26 = .ok (.iconst 4, 1) := by decide +kernel
theorem dJ6_bitCount_0f7a4_27 : decode cJ6_bitCount_0f7a4 27 = .ok (.iushr, 1) := by decide +kernel
theorem dJ6_bitCount_0f7a4_28 : decode cJ6_bitCount_0f7a4 28 = .ok (.iadd, 1) := by decide +kernel
theorem dJ6_bitCount_0f7a4_29 : decode cJ6_bitCount_0f7a4 29 = .ok (.ldc_w 267, 3) := by decide +kernel
theorem dJ6_bitCount_0f7a4_32 : decode cJ6_bitCount_0f7a4 32 = .ok (.iand, 1) := by decide +kernel
theorem dJ6_bitCount_0f7a4_33 : decode cJ6_bitCount_0f7a4 33 = .ok (.istore_n 0, 1) := by decide +kernel
theorem dJ6_bitCount_0f7a4_34 : decode cJ6_bitCount_0f7a4 34 = .ok (.iload_n 0, 1) := by decide +kernel
theorem dJ6_bitCount_0f7a4_35 : decode cJ6_bitCount_0f7a4 35 = .ok (.iload_n 0, 1) := by decide +kernel
theorem dJ6_bitCount_0f7a4_36 : decode cJ6_bitCount_0f7a4 36 = .ok (.bipush 8, 2) := by decide +kernel
theorem dJ6_bitCount_0f7a4_38 : decode cJ6_bitCount_0f7a4 38 = .ok (.iushr, 1) := by decide +kernel
theorem dJ6_bitCount_0f7a4_39 : decode cJ6_bitCount_0f7a4 39 = .ok (.iadd, 1) := by decide +kernel
theorem dJ6_bitCount_0f7a4_40 : decode cJ6_bitCount_0f7a4 40 = .ok (.istore_n 0, 1) := by decide +kernel
theorem dJ6_bitCount_0f7a4_41 : decode cJ6_bitCount_0f7a4 41 = .ok (.iload_n 0, 1) := by decide +kernel
theorem dJ6_bitCount_0f7a4_42 : decode cJ6_bitCount_0f7a4 42 = .ok (.iload_n 0, 1) := by decide +kernel
theorem dJ6_bitCount_0f7a4_43 : decode cJ6_bitCount_0f7a4 43 = .ok (.bipush 16, 2) := by decide +kernel
theorem dJ6_bitCount_0f7a4_45 : decode cJ6_bitCount_0f7a4 45 = .ok (.iushr, 1) := by decide +kernel
theorem dJ6_bitCount_0f7a4_46 : decode cJ6_bitCount_0f7a4 46 = .ok (.iadd, 1) := by decide +kernel
theorem dJ6_bitCount_0f7a4_47 : decode cJ6_bitCount_0f7a4 47 = .ok (.istore_n 0, 1) := by decide +kernel
theorem dJ6_bitCount_0f7a4_48 : decode cJ6_bitCount_0f7a4 48 = .ok (.iload_n 0, 1) := by decide +kernel
theorem dJ6_bitCount_0f7a4_49 : decode cJ6_bitCount_0f7a4 49 = .ok (.bipush 63, 2) := by decide +kernel
theorem dJ6_bitCount_0f7a4_51 : decode cJ6_bitCount_0f7a4 51 = .ok (.iand, 1) := by decide +kernel
theorem dJ6_bitCount_0f7a4_52 : decode cJ6_bitCount_0f7a4 52 = .ok (.ireturn, 1) := by decide +kernel
def j_J6_bitCount_0f7a4 (F : Nat) (a1 : Int32) (st : sw_St) : Option Int32 :=
nm (a1 - ((((a1 : Int32).toUInt32 >>> ((1 : Int32).toUInt32 &&& Int32.toUInt32 31)).toInt32) &&& 1431655765)) (fun (x1 : Int32) =>
nm ((x1 &&& 858993459) + ((((x1 : Int32).toUInt32 >>> ((2 : Int32).toUInt32 &&& Int32.toUInt32 31)).toInt32) &&& 858993459)) (fun (x2 : Int32) =>
nm ((x2 + (((x2 : Int32).toUInt32 >>> ((4 : Int32).toUInt32 &&& Int32.toUInt32 31)).toInt32)) &&& 252645135) (fun (x3 : Int32) =>
nm (x3 + (((x3 : Int32).toUInt32 >>> ((8 : Int32).toUInt32 &&& Int32.toUInt32 31)).toInt32)) (fun (x4 : Int32) =>
nm (x4 + (((x4 : Int32).toUInt32 >>> ((16 : Int32).toUInt32 &&& Int32.toUInt32 31)).toInt32)) (fun (x5 : Int32) =>
some (x5 &&& 63))))))
set_option maxHeartbeats 4000000 in
set_option maxRecDepth 100000 in
theorem c_J6_bitCount_0f7a4 (F : Nat) (a1 : Int32) (st : sw_St) {r : Int32} (h : j_J6_bitCount_0f7a4 F a1 st = some r) : sw_CI yJ6_bitCount_0f7a4 (.code yJ6_bitCount_0f7a4 cJ6_bitCount_0f7a4 1 (some .int)) 1 (fun g => [.int a1]) st r st := by
  refine sw_entI RJ6 (fun g => [(0, .int a1)]) (by decide) rfl (fun _ => Nat.le_of_ble_eq_true rfl) (fun _ => rfl) ?_
  intro p l e s m args below meth c g X hr hlk
  unfold j_J6_bitCount_0f7a4 at h
  refine sw_iload_n X 0 rfl rfl dJ6_bitCount_0f7a4_0 ?_
  refine sw_iload_n X 0 rfl rfl dJ6_bitCount_0f7a4_1 ?_
  refine sw_iconst X (v := 1) (by decide) dJ6_bitCount_0f7a4_2 ?_
  refine sw_iushr X dJ6_bitCount_0f7a4_3 ?_
  refine sw_ldcw X (v := 1431655765) wc_J6_265 dJ6_bitCount_0f7a4_4 ?_
  refine sw_iand X dJ6_bitCount_0f7a4_7 ?_
  refine sw_isub X dJ6_bitCount_0f7a4_8 ?_
  refine sw_topi (fun x1 ex1 => ?_)
  have h := nm_E h ex1
  refine sw_istore_n X [(0, .int x1)] rfl (by decide) rfl dJ6_bitCount_0f7a4_9 ?_
  refine sw_iload_n X 0 rfl rfl dJ6_bitCount_0f7a4_10 ?_
  refine sw_ldcw X (v := 858993459) wc_J6_266 dJ6_bitCount_0f7a4_11 ?_
  refine sw_iand X dJ6_bitCount_0f7a4_14 ?_
  refine sw_iload_n X 0 rfl rfl dJ6_bitCount_0f7a4_15 ?_
  refine sw_iconst X (v := 2) (by decide) dJ6_bitCount_0f7a4_16 ?_
  refine sw_iushr X dJ6_bitCount_0f7a4_17 ?_
  refine sw_ldcw X (v := 858993459) wc_J6_266 dJ6_bitCount_0f7a4_18 ?_
  refine sw_iand X dJ6_bitCount_0f7a4_21 ?_
  refine sw_iadd X dJ6_bitCount_0f7a4_22 ?_
  refine sw_topi (fun x2 ex2 => ?_)
  have h := nm_E h ex2
  refine sw_istore_n X [(0, .int x2)] rfl (by decide) rfl dJ6_bitCount_0f7a4_23 ?_
  refine sw_iload_n X 0 rfl rfl dJ6_bitCount_0f7a4_24 ?_
  refine sw_iload_n X 0 rfl rfl dJ6_bitCount_0f7a4_25 ?_
  refine sw_iconst X (v := 4) (by decide) dJ6_bitCount_0f7a4_26 ?_
  refine sw_iushr X dJ6_bitCount_0f7a4_27 ?_
  refine sw_iadd X dJ6_bitCount_0f7a4_28 ?_
  refine sw_ldcw X (v := 252645135) wc_J6_267 dJ6_bitCount_0f7a4_29 ?_
  refine sw_iand X dJ6_bitCount_0f7a4_32 ?_
  refine sw_topi (fun x3 ex3 => ?_)
  have h := nm_E h ex3
  refine sw_istore_n X [(0, .int x3)] rfl (by decide) rfl dJ6_bitCount_0f7a4_33 ?_
  refine sw_iload_n X 0 rfl rfl dJ6_bitCount_0f7a4_34 ?_
  refine sw_iload_n X 0 rfl rfl dJ6_bitCount_0f7a4_35 ?_
  refine sw_bipush X (v := 8) (by decide) dJ6_bitCount_0f7a4_36 ?_
  refine sw_iushr X dJ6_bitCount_0f7a4_38 ?_
  refine sw_iadd X dJ6_bitCount_0f7a4_39 ?_
  refine sw_topi (fun x4 ex4 => ?_)
  have h := nm_E h ex4
  refine sw_istore_n X [(0, .int x4)] rfl (by decide) rfl dJ6_bitCount_0f7a4_40 ?_
  refine sw_iload_n X 0 rfl rfl dJ6_bitCount_0f7a4_41 ?_
  refine sw_iload_n X 0 rfl rfl dJ6_bitCount_0f7a4_42 ?_
  refine sw_bipush X (v := 16) (by decide) dJ6_bitCount_0f7a4_43 ?_
  refine sw_iushr X dJ6_bitCount_0f7a4_45 ?_
  refine sw_iadd X dJ6_bitCount_0f7a4_46 ?_
  refine sw_topi (fun x5 ex5 => ?_)
  have h := nm_E h ex5
  refine sw_istore_n X [(0, .int x5)] rfl (by decide) rfl dJ6_bitCount_0f7a4_47 ?_
  refine sw_iload_n X 0 rfl rfl dJ6_bitCount_0f7a4_48 ?_
  refine sw_bipush X (v := 63) (by decide) dJ6_bitCount_0f7a4_49 ?_
  refine sw_iand X dJ6_bitCount_0f7a4_51 ?_
  exact sw_iret X hr hlk dJ6_bitCount_0f7a4_52 (by cases h; rfl)
theorem dX0_tally_0 : decode cX0_tally 0 = .ok (.aload_n 0, 1) := by decide +kernel
theorem dX0_tally_1 : decode cX0_tally 1 = .ok (.getfield 9, 3) := by decide +kernel
theorem dX0_tally_4 : decode cX0_tally 4 = .ok (.ifCond .ne 8, 3) := by decide +kernel
theorem dX0_tally_7 : decode cX0_tally 7 = .ok (.aload_n 0, 1) := by decide +kernel
theorem dX0_tally_8 : decode cX0_tally 8 = .ok (.iload_n 1, 1) := by decide +kernel
theorem dX0_tally_9 : decode cX0_tally 9 = .ok (.putfield 15, 3) := by decide +kernel
theorem dX0_tally_12 : decode cX0_tally 12 = .ok (.aload_n 0, 1) := by decide +kernel
theorem dX0_tally_13 : decode cX0_tally 13 = .ok (.dup, 1) := by decide +kernel
theorem dX0_tally_14 : decode cX0_tally 14 = .ok (.getfield 9, 3) := by decide +kernel
theorem dX0_tally_17 : decode cX0_tally 17 = .ok (.iconst 1, 1) := by decide +kernel
theorem dX0_tally_18 : decode cX0_tally 18 = .ok (.iadd, 1) := by decide +kernel
theorem dX0_tally_19 : decode cX0_tally 19 = .ok (.putfield 9, 3) := by decide +kernel
theorem dX0_tally_22 : decode cX0_tally 22 = .ok (.aload_n 0, 1) := by decide +kernel
theorem dX0_tally_23 : decode cX0_tally 23 = .ok (.dup, 1) := by decide +kernel
theorem dX0_tally_24 : decode cX0_tally 24 = .ok (.getfield 18, 3) := by decide +kernel
theorem dX0_tally_27 : decode cX0_tally 27 = .ok (.iload_n 1, 1) := by decide +kernel
theorem dX0_tally_28 : decode cX0_tally 28 = .ok (.iand, 1) := by decide +kernel
theorem dX0_tally_29 : decode cX0_tally 29 = .ok (.putfield 18, 3) := by decide +kernel
theorem dX0_tally_32 : decode cX0_tally 32 = .ok (.aload_n 0, 1) := by decide +kernel
theorem dX0_tally_33 : decode cX0_tally 33 = .ok (.dup, 1) := by decide +kernel
theorem dX0_tally_34 : decode cX0_tally 34 = .ok (.getfield 21, 3) := by decide +kernel
theorem dX0_tally_37 : decode cX0_tally 37 = .ok (.iload_n 1, 1) := by decide +kernel
theorem dX0_tally_38 : decode cX0_tally 38 = .ok (.ior, 1) := by decide +kernel
theorem dX0_tally_39 : decode cX0_tally 39 = .ok (.putfield 21, 3) := by decide +kernel
theorem dX0_tally_42 : decode cX0_tally 42 = .ok (.aload_n 0, 1) := by decide +kernel
theorem dX0_tally_43 : decode cX0_tally 43 = .ok (.aload_n 0, 1) := by decide +kernel
theorem dX0_tally_44 : decode cX0_tally 44 = .ok (.getfield 24, 3) := by decide +kernel
theorem dX0_tally_47 : decode cX0_tally 47 = .ok (.iload_n 1, 1) := by decide +kernel
theorem dX0_tally_48 : decode cX0_tally 48 = .ok (.invokestatic 66, 3) := by decide +kernel
theorem dX0_tally_51 : decode cX0_tally 51 = .ok (.invokestatic 71, 3) := by decide +kernel
theorem dX0_tally_54 : decode cX0_tally 54 = .ok (.putfield 24, 3) := by decide +kernel
theorem dX0_tally_57 : decode cX0_tally 57 = .ok (.aload_n 0, 1) := by decide +kernel
theorem dX0_tally_58 : decode cX0_tally 58 = .ok (.aload_n 0, 1) := by decide +kernel
theorem dX0_tally_59 : decode cX0_tally 59 = .ok (.getfield 27, 3) := by decide +kernel
theorem dX0_tally_62 : decode cX0_tally 62 = .ok (.iload_n 1, 1) := by decide +kernel
theorem dX0_tally_63 : decode cX0_tally 63 = .ok (.invokestatic 66, 3) := by decide +kernel
theorem dX0_tally_66 : decode cX0_tally 66 = .ok (.invokestatic 77, 3) := by decide +kernel
theorem dX0_tally_69 : decode cX0_tally 69 = .ok (.putfield 27, 3) := by decide +kernel
theorem dX0_tally_72 : decode cX0_tally 72 = .ok (.iconst 0, 1) := by decide +kernel
theorem dX0_tally_73 : decode cX0_tally 73 = .ok (.istore_n 2, 1) := by decide +kernel
theorem dX0_tally_74 : decode cX0_tally 74 = .ok (.iload_n 2, 1) := by decide +kernel
theorem dX0_tally_75 : decode cX0_tally 75 = .ok (.bipush 6, 2) := by decide +kernel
theorem dX0_tally_77 : decode cX0_tally 77 = .ok (.if_icmp .ge 23, 3) := by decide +kernel
theorem dX0_tally_80 : decode cX0_tally 80 = .ok (.aload_n 0, 1) := by decide +kernel
theorem dX0_tally_81 : decode cX0_tally 81 = .ok (.getfield 30, 3) := by decide +kernel
theorem dX0_tally_84 : decode cX0_tally 84 = .ok (.iload_n 2, 1) := by decide +kernel
theorem dX0_tally_85 : decode cX0_tally 85 = .ok (.dup2, 1) := by decide +kernel
theorem dX0_tally_86 : decode cX0_tally 86 = .ok (.iaload, 1) := by decide +kernel
theorem dX0_tally_87 : decode cX0_tally 87 = .ok (.iload_n 1, 1) := by decide +kernel
theorem dX0_tally_88 : decode cX0_tally 88 = .ok (.iload_n 2, 1) := by decide +kernel
theorem dX0_tally_89 : decode cX0_tally 89 = .ok (.ishr, 1) := by decide +kernel
theorem dX0_tally_90 : decode cX0_tally 90 = .ok (.iconst 1, 1) := by decide +kernel
theorem dX0_tally_91 : decode cX0_tally 91 = .ok (.iand, 1) := by decide +kernel
theorem dX0_tally_92 : decode cX0_tally 92 = .ok (.iadd, 1) := by decide +kernel
theorem dX0_tally_93 : decode cX0_tally 93 = .ok (.iastore, 1) := by decide +kernel
theorem dX0_tally_94 : decode cX0_tally 94 = .ok (.iinc 2 1, 3) := by decide +kernel
theorem dX0_tally_97 : decode cX0_tally 97 = .ok (.goto (-23), 3) := by decide +kernel
theorem dX0_tally_100 : decode cX0_tally 100 = .ok (.return_, 1) := by decide +kernel
def j_X0_tally (F : Nat) (a1 : Int32) (st : sw_St) : Option (Unit × sw_St) :=
jn (fun (s1 : sw_St) => 
  nm (sw_setC s1 60 1 ((s1.1 60 1) + 1)) (fun (s4 : sw_St) =>
  nm (sw_setC s4 60 3 ((s4.1 60 3) &&& a1)) (fun (s5 : sw_St) =>
  nm (sw_setC s5 60 4 ((s5.1 60 4) ||| a1)) (fun (s6 : sw_St) =>
  bo (j_J6_bitCount_0f7a4 F a1 s6) (fun (r8 : Int32) =>
  nm (sw_setC s6 60 5 (if r8 < (s6.1 60 5) then r8 else (s6.1 60 5))) (fun (s9 : sw_St) =>
  bo (j_J6_bitCount_0f7a4 F a1 s9) (fun (r11 : Int32) =>
  nm (sw_setC s9 60 6 (if (s9.1 60 6) < r11 then r11 else (s9.1 60 6))) (fun (s12 : sw_St) =>
  lz2 (fun f15 (x13 : Int32) (s14 : sw_St) =>
   (if 6 ≤ x13 then (
    some ((), s14))
   else (
    bnd x13 6 (
    bnd x13 6 (
    nm (sw_setC s14 61 (x13 : Int32).toNatClampNeg ((s14.1 61 (x13 : Int32).toNatClampNeg) + ((a1 >>> (x13 &&& 31)) &&& 1))) (fun (s20 : sw_St) =>
    nm (x13 + 1) (fun (x21 : Int32) =>
    f15 x21 s20))))))) F 0 s12)))))))) (fun k2 =>
 (if (st.1 60 1) = 0 then (
  nm (sw_setC st 60 2 a1) (fun (s23 : sw_St) =>
  k2 s23))
 else (
  k2 st)))
set_option maxHeartbeats 4000000 in
set_option maxRecDepth 100000 in
theorem c_X0_tally (F : Nat) (a1 : Int32) (st : sw_St) {st1 : sw_St} (h : j_X0_tally F a1 st = some ((), st1)) : sw_CV yX0_tally (.code yX0_tally cX0_tally 3 none) 2 (fun g => [.ref (g.1 60), .int a1]) st  st1 := by
  refine sw_entV RX0 (fun g => [(0, .ref (g.1 60)), (1, .int a1)]) (by decide) rfl (fun _ => Nat.le_of_ble_eq_true rfl) (fun _ => rfl) ?_
  intro p l e s m args below meth c g X hr hlk
  unfold j_X0_tally at h
  refine sw_aload_n X 0 rfl rfl dX0_tally_0 ?_
  refine sw_getI X sw_cl0 (show sw_kd 60 = 0 from rfl) (k := 1) rfl (by decide) wf_X0_9 dX0_tally_1 ?_
  refine jn1_E (fun (s1 : sw_St) => sw_V p l e 2 s m args below meth c g (sw_A g s.heap.size) (sw_QV below g args s  st1) 3 12 [(0, .ref (g.1 60)), (1, .int a1)] [] s1) h (fun s1 h => ?_) (fun k2 J3 h => ?_)
  · refine sw_aload_n X 0 rfl rfl dX0_tally_12 ?_
    refine sw_dup X rfl dX0_tally_13 ?_
    refine sw_getI X sw_cl0 (show sw_kd 60 = 0 from rfl) (k := 1) rfl (by decide) wf_X0_9 dX0_tally_14 ?_
    refine sw_iconst X (v := 1) (by decide) dX0_tally_17 ?_
    refine sw_iadd X dX0_tally_18 ?_
    refine sw_putI X sw_cl0 (show sw_kd 60 = 0 from rfl) (k := 1) rfl (by decide) rfl rfl wf_X0_9 dX0_tally_19 (fun s4 es4 => ?_)
    have h := nm_E h es4
    refine sw_aload_n X 0 rfl rfl dX0_tally_22 ?_
    refine sw_dup X rfl dX0_tally_23 ?_
    refine sw_getI X sw_cl0 (show sw_kd 60 = 0 from rfl) (k := 3) rfl (by decide) wf_X0_18 dX0_tally_24 ?_
    refine sw_iload_n X 1 rfl rfl dX0_tally_27 ?_
    refine sw_iand X dX0_tally_28 ?_
    refine sw_putI X sw_cl0 (show sw_kd 60 = 0 from rfl) (k := 3) rfl (by decide) rfl rfl wf_X0_18 dX0_tally_29 (fun s5 es5 => ?_)
    have h := nm_E h es5
    refine sw_aload_n X 0 rfl rfl dX0_tally_32 ?_
    refine sw_dup X rfl dX0_tally_33 ?_
    refine sw_getI X sw_cl0 (show sw_kd 60 = 0 from rfl) (k := 4) rfl (by decide) wf_X0_21 dX0_tally_34 ?_
    refine sw_iload_n X 1 rfl rfl dX0_tally_37 ?_
    refine sw_ior X dX0_tally_38 ?_
    refine sw_putI X sw_cl0 (show sw_kd 60 = 0 from rfl) (k := 4) rfl (by decide) rfl rfl wf_X0_21 dX0_tally_39 (fun s6 es6 => ?_)
    have h := nm_E h es6
    refine sw_aload_n X 0 rfl rfl dX0_tally_42 ?_
    refine sw_aload_n X 0 rfl rfl dX0_tally_43 ?_
    refine sw_getI X sw_cl0 (show sw_kd 60 = 0 from rfl) (k := 5) rfl (by decide) wf_X0_24 dX0_tally_44 ?_
    refine sw_iload_n X 1 rfl rfl dX0_tally_47 ?_
    obtain ⟨r8, c7, h⟩ := bo_E h
    refine sw_callSI X (As := (fun g => [.int a1])) ws_J6_bitCount_0f7a4 (by omega) (c_J6_bitCount_0f7a4 F a1 s6 c7) rfl rfl (Nat.le_of_ble_eq_true rfl) wm_X0_66 dX0_tally_48 ?_
    refine sw_mmin X wm_X0_71 ws_min.1 ws_min.2.1 ws_min.2.2 (by omega) (Nat.le_of_ble_eq_true rfl) dX0_tally_51 ?_
    refine sw_putI X sw_cl0 (show sw_kd 60 = 0 from rfl) (k := 5) rfl (by decide) rfl rfl wf_X0_24 dX0_tally_54 (fun s9 es9 => ?_)
    have h := nm_E h es9
    refine sw_aload_n X 0 rfl rfl dX0_tally_57 ?_
    refine sw_aload_n X 0 rfl rfl dX0_tally_58 ?_
    refine sw_getI X sw_cl0 (show sw_kd 60 = 0 from rfl) (k := 6) rfl (by decide) wf_X0_27 dX0_tally_59 ?_
    refine sw_iload_n X 1 rfl rfl dX0_tally_62 ?_
    obtain ⟨r11, c10, h⟩ := bo_E h
    refine sw_callSI X (As := (fun g => [.int a1])) ws_J6_bitCount_0f7a4 (by omega) (c_J6_bitCount_0f7a4 F a1 s9 c10) rfl rfl (Nat.le_of_ble_eq_true rfl) wm_X0_66 dX0_tally_63 ?_
    refine sw_mmax X wm_X0_77 ws_max.1 ws_max.2.1 ws_max.2.2 (by omega) (Nat.le_of_ble_eq_true rfl) dX0_tally_66 ?_
    refine sw_putI X sw_cl0 (show sw_kd 60 = 0 from rfl) (k := 6) rfl (by decide) rfl rfl wf_X0_27 dX0_tally_69 (fun s12 es12 => ?_)
    have h := nm_E h es12
    refine sw_iconst X (v := 0) (by decide) dX0_tally_72 ?_
    refine sw_istore_n X [(2, .int 0), (0, .ref (g.1 60)), (1, .int a1)] rfl (by decide) rfl dX0_tally_73 ?_
    refine sw_sub [1, 2, 0] rfl ?_
    refine lz2_E (fun (x13 : Int32) (s14 : sw_St) => sw_V p l e 2 s m args below meth c g (sw_A g s.heap.size) (sw_QV below g args s  st1) 3 74 [(0, .ref (g.1 60)), (1, .int a1), (2, .int x13)] [] s14) h (fun f15 ih16 x13 s14 h => ?_)
    refine sw_iload_n X 2 rfl rfl dX0_tally_74 ?_
    refine sw_bipush X (v := 6) (by decide) dX0_tally_75 ?_
    refine sw_icmp_ge X 100 (by decide) dX0_tally_77 (fun q17 => ?_) (fun q17 => ?_)
    · have h := ite_T h q17
      exact sw_vret X hr hlk dX0_tally_100 h
    · have h := ite_F h q17
      refine sw_aload_n X 0 rfl rfl dX0_tally_80 ?_
      refine sw_getR X sw_cl0 (show sw_kd 60 = 0 from rfl) (k := 7) rfl (by decide) (o1 := 61) rfl wf_X0_30 dX0_tally_81 ?_
      refine sw_iload_n X 2 rfl rfl dX0_tally_84 ?_
      refine sw_dup2 X rfl rfl dX0_tally_85 ?_
      obtain ⟨q18, h⟩ := bnd_E h
      refine sw_iald X (show sw_kd 61 = 8 from rfl) (n := 6) rfl q18 dX0_tally_86 ?_
      refine sw_iload_n X 1 rfl rfl dX0_tally_87 ?_
      refine sw_iload_n X 2 rfl rfl dX0_tally_88 ?_
      refine sw_ishr X dX0_tally_89 ?_
      refine sw_iconst X (v := 1) (by decide) dX0_tally_90 ?_
      refine sw_iand X dX0_tally_91 ?_
      refine sw_iadd X dX0_tally_92 ?_
      obtain ⟨q19, h⟩ := bnd_E h
      refine sw_iast X (show sw_kd 61 = 8 from rfl) (n := 6) rfl q19 dX0_tally_93 (fun s20 es20 => ?_)
      have h := nm_E h es20
      obtain ⟨x21, ex21⟩ : ∃ y : Int32, y = x13 + 1 := ⟨_, rfl⟩
      have h := nm_E h ex21
      refine sw_iinc X 2 x21 [(2, .int x21), (0, .ref (g.1 60)), (1, .int a1)] rfl (by rw [ex21]; rfl) (by decide) rfl dX0_tally_94 ?_
      refine sw_goto X 74 (by decide) dX0_tally_97 ?_
      refine sw_sub [1, 2, 0] rfl ?_
      exact ih16 _ _ h
  · refine sw_if_ne X 12 (by decide) dX0_tally_4 (fun q22 => ?_) (fun q22 => ?_)
    · have h := ite_F h q22
      exact J3 _ h
    · have h := ite_T h q22
      refine sw_aload_n X 0 rfl rfl dX0_tally_7 ?_
      refine sw_iload_n X 1 rfl rfl dX0_tally_8 ?_
      refine sw_putI X sw_cl0 (show sw_kd 60 = 0 from rfl) (k := 2) rfl (by decide) rfl rfl wf_X0_15 dX0_tally_9 (fun s23 es23 => ?_)
      have h := nm_E h es23
      exact J3 _ h
theorem dX4_sets_0 : decode cX4_sets 0 = .ok (.iconst 1, 1) := by decide +kernel
theorem dX4_sets_1 : decode cX4_sets 1 = .ok (.aload_n 0, 1) := by decide +kernel
theorem dX4_sets_2 : decode cX4_sets 2 = .ok (.getfield 9, 3) := by decide +kernel
theorem dX4_sets_5 : decode cX4_sets 5 = .ok (.ishl, 1) := by decide +kernel
theorem dX4_sets_6 : decode cX4_sets 6 = .ok (.ireturn, 1) := by decide +kernel
def j_X4_sets (F : Nat) (t : Nat) (st : sw_St) : Option Int32 :=
some (1 <<< ((st.1 t 0) &&& 31))
set_option maxHeartbeats 4000000 in
set_option maxRecDepth 100000 in
theorem c_X4_sets (F : Nat) {t : Nat} (ht : sw_kd t = 4) (st : sw_St) {r : Int32} (h : j_X4_sets F t st = some r) : sw_CI yX4_sets (.code yX4_sets cX4_sets 1 (some .int)) 1 (fun g => [.ref (g.1 t)]) st r st := by
  refine sw_entI RX4 (fun g => [(0, .ref (g.1 t))]) (by decide) rfl (fun _ => Nat.le_of_ble_eq_true rfl) (fun _ => rfl) ?_
  intro p l e s m args below meth c g X hr hlk
  unfold j_X4_sets at h
  refine sw_iconst X (v := 1) (by decide) dX4_sets_0 ?_
  refine sw_aload_n X 0 rfl rfl dX4_sets_1 ?_
  refine sw_getI X sw_cl4 (show sw_kd t = 4 from ht) (k := 0) rfl (by decide) wf_X4_9 dX4_sets_2 ?_
  refine sw_ishl X dX4_sets_5 ?_
  exact sw_iret X hr hlk dX4_sets_6 (by cases h; rfl)
theorem dX4_notIn_0 : decode cX4_notIn 0 = .ok (.aload_n 0, 1) := by decide +kernel
theorem dX4_notIn_1 : decode cX4_notIn 1 = .ok (.invokevirtual 64, 3) := by decide +kernel
theorem dX4_notIn_4 : decode cX4_notIn 4 = .ok (.iconst 1, 1) := by decide +kernel
theorem dX4_notIn_5 : decode cX4_notIn 5 = .ok (.isub, 1) := by decide +kernel
theorem dX4_notIn_6 : decode cX4_notIn 6 = .ok (.aload_n 0, 1) := by decide +kernel
theorem dX4_notIn_7 : decode cX4_notIn 7 = .ok (.getfield 46, 3) := by decide +kernel
theorem dX4_notIn_10 : decode cX4_notIn 10 = .ok (.iconst (-1), 1) := by decide +kernel
theorem dX4_notIn_11 : decode cX4_notIn 11 = .ok (.ixor, 1) := by decide +kernel
theorem dX4_notIn_12 : decode cX4_notIn 12 = .ok (.iand, 1) := by decide +kernel
theorem dX4_notIn_13 : decode cX4_notIn 13 = .ok (.ireturn, 1) := by decide +kernel
def j_X4_notIn (F : Nat) (t : Nat) (st : sw_St) : Option Int32 :=
bo (j_X4_sets F t st) (fun (r2 : Int32) =>
some ((r2 - 1) &&& ((st.1 t 11) ^^^ (-1))))
set_option maxHeartbeats 4000000 in
set_option maxRecDepth 100000 in
theorem c_X4_notIn (F : Nat) {t : Nat} (ht : sw_kd t = 4) (st : sw_St) {r : Int32} (h : j_X4_notIn F t st = some r) : sw_CI yX4_notIn (.code yX4_notIn cX4_notIn 1 (some .int)) 2 (fun g => [.ref (g.1 t)]) st r st := by
  refine sw_entI RX4 (fun g => [(0, .ref (g.1 t))]) (by decide) rfl (fun _ => Nat.le_of_ble_eq_true rfl) (fun _ => rfl) ?_
  intro p l e s m args below meth c g X hr hlk
  unfold j_X4_notIn at h
  refine sw_aload_n X 0 rfl rfl dX4_notIn_0 ?_
  obtain ⟨r2, c1, h⟩ := bo_E h
  refine sw_callVI X (o := t) (As := (fun g => [])) sw_cl4 (show sw_kd t = 4 from ht) ws_X4_sets (by omega) (c_X4_sets F (show sw_kd t = 4 from ht) st c1) rfl rfl (Nat.le_of_ble_eq_true rfl) wm_X4_64 dX4_notIn_1 ?_
  refine sw_iconst X (v := 1) (by decide) dX4_notIn_4 ?_
  refine sw_isub X dX4_notIn_5 ?_
  refine sw_aload_n X 0 rfl rfl dX4_notIn_6 ?_
  refine sw_getI X sw_cl4 (show sw_kd t = 4 from ht) (k := 11) rfl (by decide) wf_X4_46 dX4_notIn_7 ?_
  refine sw_iconst X (v := (-1)) (by decide) dX4_notIn_10 ?_
  refine sw_ixor X dX4_notIn_11 ?_
  refine sw_iand X dX4_notIn_12 ?_
  exact sw_iret X hr hlk dX4_notIn_13 (by cases h; rfl)
theorem dX4_woundNext_0 : decode cX4_woundNext 0 = .ok (.iconst 0, 1) := by decide +kernel
theorem dX4_woundNext_1 : decode cX4_woundNext 1 = .ok (.iload_n 1, 1) := by decide +kernel
theorem dX4_woundNext_2 : decode cX4_woundNext 2 = .ok (.iconst 1, 1) := by decide +kernel
theorem dX4_woundNext_3 : decode cX4_woundNext 3 = .ok (.isub, 1) := by decide +kernel
theorem dX4_woundNext_4 : decode cX4_woundNext 4 = .ok (.aload_n 0, 1) := by decide +kernel
theorem dX4_woundNext_5 : decode cX4_woundNext 5 = .ok (.getfield 37, 3) := by decide +kernel
theorem dX4_woundNext_8 : decode cX4_woundNext 8 = .ok (.isub, 1) := by decide +kernel
theorem dX4_woundNext_9 : decode cX4_woundNext 9 = .ok (.invokestatic 108, 3) := by decide +kernel
theorem dX4_woundNext_12 : decode cX4_woundNext 12 = .ok (.ireturn, 1) := by decide +kernel
def j_X4_woundNext (F : Nat) (t : Nat) (a1 : Int32) (st : sw_St) : Option Int32 :=
some (if 0 < ((a1 - 1) - (st.1 t 8)) then ((a1 - 1) - (st.1 t 8)) else 0)
set_option maxHeartbeats 4000000 in
set_option maxRecDepth 100000 in
theorem c_X4_woundNext (F : Nat) {t : Nat} (ht : sw_kd t = 4) (a1 : Int32) (st : sw_St) {r : Int32} (h : j_X4_woundNext F t a1 st = some r) : sw_CI yX4_woundNext (.code yX4_woundNext cX4_woundNext 2 (some .int)) 1 (fun g => [.ref (g.1 t), .int a1]) st r st := by
  refine sw_entI RX4 (fun g => [(0, .ref (g.1 t)), (1, .int a1)]) (by decide) rfl (fun _ => Nat.le_of_ble_eq_true rfl) (fun _ => rfl) ?_
  intro p l e s m args below meth c g X hr hlk
  unfold j_X4_woundNext at h
  refine sw_iconst X (v := 0) (by decide) dX4_woundNext_0 ?_
  refine sw_iload_n X 1 rfl rfl dX4_woundNext_1 ?_
  refine sw_iconst X (v := 1) (by decide) dX4_woundNext_2 ?_
  refine sw_isub X dX4_woundNext_3 ?_
  refine sw_aload_n X 0 rfl rfl dX4_woundNext_4 ?_
  refine sw_getI X sw_cl4 (show sw_kd t = 4 from ht) (k := 8) rfl (by decide) wf_X4_37 dX4_woundNext_5 ?_
  refine sw_isub X dX4_woundNext_8 ?_
  refine sw_mmax X wm_X4_108 ws_max.1 ws_max.2.1 ws_max.2.2 (by omega) (Nat.le_of_ble_eq_true rfl) dX4_woundNext_9 ?_
  exact sw_iret X hr hlk dX4_woundNext_12 (by cases h; rfl)
theorem dX4_strikesNext_0 : decode cX4_strikesNext 0 = .ok (.iload_n 1, 1) := by decide +kernel
theorem dX4_strikesNext_1 : decode cX4_strikesNext 1 = .ok (.ifCond .le 16, 3) := by decide +kernel
theorem dX4_strikesNext_4 : decode cX4_strikesNext 4 = .ok (.aload_n 0, 1) := by decide +kernel
theorem dX4_strikesNext_5 : decode cX4_strikesNext 5 = .ok (.iload_n 1, 1) := by decide +kernel
theorem dX4_strikesNext_6 : decode cX4_strikesNext 6 = .ok (.invokevirtual 87, 3) := by decide +kernel
theorem dX4_strikesNext_9 : decode cX4_strikesNext 9 = .ok (.bipush 10, 2) := by decide +kernel
theorem dX4_strikesNext_11 : decode cX4_strikesNext 11 = .ok (.idiv, 1) := by decide +kernel
theorem dX4_strikesNext_12 : decode cX4_strikesNext 12 = .ok (.iconst 1, 1) := by decide +kernel
theorem dX4_strikesNext_13 : decode cX4_strikesNext 13 = .ok (.iadd, 1) := by decide +kernel
theorem dX4_strikesNext_14 : decode cX4_strikesNext 14 = .ok (.goto 4, 3) := by decide +kernel
theorem dX4_strikesNext_17 : decode cX4_strikesNext 17 = .ok (.iconst 0, 1) := by decide +kernel
theorem dX4_strikesNext_18 : decode cX4_strikesNext 18 = .ok (.ireturn, 1) := by decide +kernel
def j_X4_strikesNext (F : Nat) (t : Nat) (a1 : Int32) (st : sw_St) : Option Int32 :=
jn (fun (x1 : Int32) => 
  some x1) (fun k2 =>
 (if a1 ≤ 0 then (
  k2 0)
 else (
  bo (j_X4_woundNext F t a1 st) (fun (r6 : Int32) =>
  k2 ((r6 / 10) + 1)))))
set_option maxHeartbeats 4000000 in
set_option maxRecDepth 100000 in
theorem c_X4_strikesNext (F : Nat) {t : Nat} (ht : sw_kd t = 4) (a1 : Int32) (st : sw_St) {r : Int32} (h : j_X4_strikesNext F t a1 st = some r) : sw_CI yX4_strikesNext (.code yX4_strikesNext cX4_strikesNext 2 (some .int)) 2 (fun g => [.ref (g.1 t), .int a1]) st r st := by
  refine sw_entI RX4 (fun g => [(0, .ref (g.1 t)), (1, .int a1)]) (by decide) rfl (fun _ => Nat.le_of_ble_eq_true rfl) (fun _ => rfl) ?_
  intro p l e s m args below meth c g X hr hlk
  unfold j_X4_strikesNext at h
  refine sw_iload_n X 1 rfl rfl dX4_strikesNext_0 ?_
  refine jn1_E (fun (x1 : Int32) => sw_V p l e 2 s m args below meth c g (sw_A g s.heap.size) (sw_QI below g args s r st) 2 18 [] [.int x1] st) h (fun x1 h => ?_) (fun k2 J3 h => ?_)
  · exact sw_iret X hr hlk dX4_strikesNext_18 (by cases h; rfl)
  · refine sw_if_le X 17 (by decide) dX4_strikesNext_1 (fun q4 => ?_) (fun q4 => ?_)
    · have h := ite_T h q4
      refine sw_iconst X (v := 0) (by decide) dX4_strikesNext_17 ?_
      refine sw_sub [] rfl ?_
      exact J3 _ h
    · have h := ite_F h q4
      refine sw_aload_n X 0 rfl rfl dX4_strikesNext_4 ?_
      refine sw_iload_n X 1 rfl rfl dX4_strikesNext_5 ?_
      obtain ⟨r6, c5, h⟩ := bo_E h
      refine sw_callVI X (o := t) (As := (fun g => [.int a1])) sw_cl4 (show sw_kd t = 4 from ht) ws_X4_woundNext (by omega) (c_X4_woundNext F (show sw_kd t = 4 from ht) a1 st c5) rfl rfl (Nat.le_of_ble_eq_true rfl) wm_X4_87 dX4_strikesNext_6 ?_
      refine sw_bipush X (v := 10) (by decide) dX4_strikesNext_9 ?_
      refine sw_idiv X (by decide) dX4_strikesNext_11 ?_
      refine sw_iconst X (v := 1) (by decide) dX4_strikesNext_12 ?_
      refine sw_iadd X dX4_strikesNext_13 ?_
      refine sw_goto X 18 (by decide) dX4_strikesNext_14 ?_
      refine sw_sub [] rfl ?_
      exact J3 _ h
theorem dX4_isOf_0 : decode cX4_isOf 0 = .ok (.aload_n 0, 1) := by decide +kernel
theorem dX4_isOf_1 : decode cX4_isOf 1 = .ok (.getfield 15, 3) := by decide +kernel
theorem dX4_isOf_4 : decode cX4_isOf 4 = .ok (.iload_n 1, 1) := by decide +kernel
theorem dX4_isOf_5 : decode cX4_isOf 5 = .ok (.iaload, 1) := by decide +kernel
theorem dX4_isOf_6 : decode cX4_isOf 6 = .ok (.istore_n 3, 1) := by decide +kernel
theorem dX4_isOf_7 : decode cX4_isOf 7 = .ok (.iload_n 3, 1) := by decide +kernel
theorem dX4_isOf_8 : decode cX4_isOf 8 = .ok (.iload_n 2, 1) := by decide +kernel
theorem dX4_isOf_9 : decode cX4_isOf 9 = .ok (.if_icmp .eq 23, 3) := by decide +kernel
theorem dX4_isOf_12 : decode cX4_isOf 12 = .ok (.iload_n 3, 1) := by decide +kernel
theorem dX4_isOf_13 : decode cX4_isOf 13 = .ok (.iconst 4, 1) := by decide +kernel
theorem dX4_isOf_14 : decode cX4_isOf 14 = .ok (.if_icmp .ne 8, 3) := by decide +kernel
theorem dX4_isOf_17 : decode cX4_isOf 17 = .ok (.iload_n 2, 1) := by decide +kernel
theorem dX4_isOf_18 : decode cX4_isOf 18 = .ok (.iconst 1, 1) := by decide +kernel
theorem dX4_isOf_19 : decode cX4_isOf 19 = .ok (.if_icmp .eq 13, 3) := by decide +kernel
theorem dX4_isOf_22 : decode cX4_isOf 22 = .ok (.iload_n 3, 1) := by decide +kernel
theorem dX4_isOf_23 : decode cX4_isOf 23 = .ok (.iconst 5, 1) := by decide +kernel
theorem dX4_isOf_24 : decode cX4_isOf 24 = .ok (.if_icmp .ne 12, 3) := by decide +kernel
theorem dX4_isOf_27 : decode cX4_isOf 27 = .ok (.iload_n 2, 1) := by decide +kernel
theorem dX4_isOf_28 : decode cX4_isOf 28 = .ok (.iconst 2, 1) := by decide +kernel
theorem dX4_isOf_29 : decode cX4_isOf 29 = .ok (.if_icmp .ne 7, 3) := by decide +kernel
theorem dX4_isOf_32 : decode cX4_isOf 32 = .ok (.iconst 1, 1) := by decide +kernel
theorem dX4_isOf_33 : decode cX4_isOf 33 = .ok (.goto 4, 3) := by decide +kernel
theorem dX4_isOf_36 : decode cX4_isOf 36 = .ok (.iconst 0, 1) := by decide +kernel
theorem dX4_isOf_37 : decode cX4_isOf 37 = .ok (.ireturn, 1) := by decide +kernel
def j_X4_isOf (F : Nat) (t : Nat) (a1 : Int32) (a2 : Int32) (st : sw_St) : Option Int32 :=
bnd a1 6 (
nm (st.1 (t + 1) (a1 : Int32).toNatClampNeg) (fun (x2 : Int32) =>
jn (fun (x3 : Int32) => 
  grd (x3 = 0 ∨ x3 = 1) (some x3)) (fun k4 =>
 jn (
   k4 1) (fun k7 =>
  (if x2 = a2 then (
   k7)
  else (
   jn (
     jn (
       k4 0) (fun k12 =>
      (if x2 = 5 then (
       (if a2 = 2 then (
        k7)
       else (
        k12)))
      else (
       k12)))) (fun k10 =>
    (if x2 = 4 then (
     (if a2 = 1 then (
      k7)
     else (
      k10)))
    else (
     k10)))))))))
set_option maxHeartbeats 4000000 in
set_option maxRecDepth 100000 in
theorem c_X4_isOf (F : Nat) {t : Nat} (ht : sw_kd t = 4) (a1 : Int32) (a2 : Int32) (st : sw_St) {r : Int32} (h : j_X4_isOf F t a1 a2 st = some r) : sw_CI yX4_isOf (.code yX4_isOf cX4_isOf 4 (some .boolean)) 1 (fun g => [.ref (g.1 t), .int a1, .int a2]) st r st := by
  refine sw_entI RX4 (fun g => [(0, .ref (g.1 t)), (1, .int a1), (2, .int a2)]) (by decide) rfl (fun _ => Nat.le_of_ble_eq_true rfl) (fun _ => rfl) ?_
  intro p l e s m args below meth c g X hr hlk
  unfold j_X4_isOf at h
  refine sw_aload_n X 0 rfl rfl dX4_isOf_0 ?_
  refine sw_getR X sw_cl4 (show sw_kd t = 4 from ht) (k := 1) rfl (by decide) (o1 := t + 1) (sw_rfT st ht : sw_rf st t 1 = t + 1) wf_X4_15 dX4_isOf_1 ?_
  refine sw_iload_n X 1 rfl rfl dX4_isOf_4 ?_
  obtain ⟨q1, h⟩ := bnd_E h
  refine sw_iald X (show sw_kd (t + 1) = 8 from (sw_tk1 ht)) (n := 6) (sw_tn1 ht) q1 dX4_isOf_5 ?_
  refine sw_topi (fun x2 ex2 => ?_)
  have h := nm_E h ex2
  refine sw_istore_n X [(3, .int x2), (0, .ref (g.1 t)), (1, .int a1), (2, .int a2)] rfl (by decide) rfl dX4_isOf_6 ?_
  refine sw_iload_n X 0 rfl rfl dX4_isOf_7 ?_
  refine sw_iload_n X 3 rfl rfl dX4_isOf_8 ?_
  refine jn1_E (fun (x3 : Int32) => sw_V p l e 1 s m args below meth c g (sw_A g s.heap.size) (sw_QI below g args s r st) 4 37 [] [.int x3] st) h (fun x3 h => ?_) (fun k4 J5 h => ?_)
  · obtain ⟨q6, h⟩ := grd_E h
    exact sw_zret X hr hlk q6 dX4_isOf_37 (by cases h; rfl)
  · refine jn0_E (sw_V p l e 1 s m args below meth c g (sw_A g s.heap.size) (sw_QI below g args s r st) 4 32 [] [] st) h (fun h => ?_) (fun k7 J8 h => ?_)
    · refine sw_iconst X (v := 1) (by decide) dX4_isOf_32 ?_
      refine sw_goto X 37 (by decide) dX4_isOf_33 ?_
      exact J5 _ h
    · refine sw_icmp_eq X 32 (by decide) dX4_isOf_9 (fun q9 => ?_) (fun q9 => ?_)
      · have h := ite_T h q9
        refine sw_sub [] rfl ?_
        exact J8  h
      · have h := ite_F h q9
        refine sw_iload_n X 0 rfl rfl dX4_isOf_12 ?_
        refine sw_iconst X (v := 4) (by decide) dX4_isOf_13 ?_
        refine jn0_E (sw_V p l e 1 s m args below meth c g (sw_A g s.heap.size) (sw_QI below g args s r st) 4 22 [(2, .int a2), (3, .int x2)] [] st) h (fun h => ?_) (fun k10 J11 h => ?_)
        · refine sw_iload_n X 1 rfl rfl dX4_isOf_22 ?_
          refine sw_iconst X (v := 5) (by decide) dX4_isOf_23 ?_
          refine jn0_E (sw_V p l e 1 s m args below meth c g (sw_A g s.heap.size) (sw_QI below g args s r st) 4 36 [] [] st) h (fun h => ?_) (fun k12 J13 h => ?_)
          · refine sw_iconst X (v := 0) (by decide) dX4_isOf_36 ?_
            exact J5 _ h
          · refine sw_icmp_ne X 36 (by decide) dX4_isOf_24 (fun q14 => ?_) (fun q14 => ?_)
            · have h := ite_F h q14
              refine sw_sub [] rfl ?_
              exact J13  h
            · have h := ite_T h q14
              refine sw_iload_n X 0 rfl rfl dX4_isOf_27 ?_
              refine sw_iconst X (v := 2) (by decide) dX4_isOf_28 ?_
              refine sw_icmp_ne X 36 (by decide) dX4_isOf_29 (fun q15 => ?_) (fun q15 => ?_)
              · have h := ite_F h q15
                refine sw_sub [] rfl ?_
                exact J13  h
              · have h := ite_T h q15
                refine sw_sub [] rfl ?_
                exact J8  h
        · refine sw_icmp_ne X 22 (by decide) dX4_isOf_14 (fun q16 => ?_) (fun q16 => ?_)
          · have h := ite_F h q16
            refine sw_sub [3, 0] rfl ?_
            exact J11  h
          · have h := ite_T h q16
            refine sw_iload_n X 3 rfl rfl dX4_isOf_17 ?_
            refine sw_iconst X (v := 1) (by decide) dX4_isOf_18 ?_
            refine sw_icmp_eq X 32 (by decide) dX4_isOf_19 (fun q17 => ?_) (fun q17 => ?_)
            · have h := ite_T h q17
              refine sw_sub [] rfl ?_
              exact J8  h
            · have h := ite_F h q17
              refine sw_sub [3, 0] rfl ?_
              exact J11  h
theorem dX4_allOf_0 : decode cX4_allOf 0 = .ok (.iconst 0, 1) := by decide +kernel
theorem dX4_allOf_1 : decode cX4_allOf 1 = .ok (.istore_n 2, 1) := by decide +kernel
theorem dX4_allOf_2 : decode cX4_allOf 2 = .ok (.iconst 0, 1) := by decide +kernel
theorem dX4_allOf_3 : decode cX4_allOf 3 = .ok (.istore_n 3, 1) := by decide +kernel
theorem dX4_allOf_4 : decode cX4_allOf 4 = .ok (.iload_n 3, 1) := by decide +kernel
theorem dX4_allOf_5 : decode cX4_allOf 5 = .ok (.aload_n 0, 1) := by decide +kernel
theorem dX4_allOf_6 : decode cX4_allOf 6 = .ok (.getfield 9, 3) := by decide +kernel
theorem dX4_allOf_9 : decode cX4_allOf 9 = .ok (.if_icmp .ge 24, 3) := by decide +kernel
theorem dX4_allOf_12 : decode cX4_allOf 12 = .ok (.aload_n 0, 1) := by decide +kernel
theorem dX4_allOf_13 : decode cX4_allOf 13 = .ok (.iload_n 3, 1) := by decide +kernel
theorem dX4_allOf_14 : decode cX4_allOf 14 = .ok (.iload_n 1, 1) := by decide +kernel
theorem dX4_allOf_15 : decode cX4_allOf 15 = .ok (.invokevirtual 90, 3) := by decide +kernel
theorem dX4_allOf_18 : decode cX4_allOf 18 = .ok (.ifCond .eq 9, 3) := by decide +kernel
theorem dX4_allOf_21 : decode cX4_allOf 21 = .ok (.iload_n 2, 1) := by decide +kernel
theorem dX4_allOf_22 : decode cX4_allOf 22 = .ok (.iconst 1, 1) := by decide +kernel
theorem dX4_allOf_23 : decode cX4_allOf 23 = .ok (.iload_n 3, 1) := by decide +kernel
theorem dX4_allOf_24 : decode cX4_allOf 24 = .ok (.ishl, 1) := by decide +kernel
theorem dX4_allOf_25 : decode cX4_allOf 25 = .ok (.ior, 1) := by decide +kernel
theorem dX4_allOf_26 : decode cX4_allOf 26 = .ok (.istore_n 2, 1) := by decide +kernel
theorem dX4_allOf_27 : decode cX4_allOf 27 = .ok (.iinc 3 1, 3) := by decide +kernel
theorem dX4_allOf_30 : decode cX4_allOf 30 = .ok (.goto (-26), 3) := by decide +kernel
theorem dX4_allOf_33 : decode cX4_allOf 33 = .ok (.iload_n 2, 1) := by decide +kernel
theorem dX4_allOf_34 : decode cX4_allOf 34 = .ok (.ireturn, 1) := by decide +kernel
def j_X4_allOf (F : Nat) (t : Nat) (a1 : Int32) (st : sw_St) : Option Int32 :=
lz2 (fun f3 (x1 : Int32) (x2 : Int32) =>
 (if (st.1 t 0) ≤ x2 then (
  some x1)
 else (
  bo (j_X4_isOf F t x2 a1 st) (fun (r7 : Int32) =>
  jn (fun (x8 : Int32) => 
    nm (x2 + 1) (fun (x11 : Int32) =>
    f3 x8 x11)) (fun k9 =>
   (if r7 = 0 then (
    k9 x1)
   else (
    nm (x1 ||| (1 <<< (x2 &&& 31))) (fun (x13 : Int32) =>
    k9 x13)))))))) F 0 0
set_option maxHeartbeats 4000000 in
set_option maxRecDepth 100000 in
theorem c_X4_allOf (F : Nat) {t : Nat} (ht : sw_kd t = 4) (a1 : Int32) (st : sw_St) {r : Int32} (h : j_X4_allOf F t a1 st = some r) : sw_CI yX4_allOf (.code yX4_allOf cX4_allOf 4 (some .int)) 2 (fun g => [.ref (g.1 t), .int a1]) st r st := by
  refine sw_entI RX4 (fun g => [(0, .ref (g.1 t)), (1, .int a1)]) (by decide) rfl (fun _ => Nat.le_of_ble_eq_true rfl) (fun _ => rfl) ?_
  intro p l e s m args below meth c g X hr hlk
  unfold j_X4_allOf at h
  refine sw_iconst X (v := 0) (by decide) dX4_allOf_0 ?_
  refine sw_istore_n X [(2, .int 0), (0, .ref (g.1 t)), (1, .int a1)] rfl (by decide) rfl dX4_allOf_1 ?_
  refine sw_iconst X (v := 0) (by decide) dX4_allOf_2 ?_
  refine sw_istore_n X [(3, .int 0), (2, .int 0), (0, .ref (g.1 t)), (1, .int a1)] rfl (by decide) rfl dX4_allOf_3 ?_
  refine sw_sub [2, 3, 1, 0] rfl ?_
  refine lz2_E (fun (x1 : Int32) (x2 : Int32) => sw_V p l e 2 s m args below meth c g (sw_A g s.heap.size) (sw_QI below g args s r st) 4 4 [(0, .ref (g.1 t)), (1, .int a1), (2, .int x1), (3, .int x2)] [] st) h (fun f3 ih4 x1 x2 h => ?_)
  refine sw_iload_n X 3 rfl rfl dX4_allOf_4 ?_
  refine sw_aload_n X 0 rfl rfl dX4_allOf_5 ?_
  refine sw_getI X sw_cl4 (show sw_kd t = 4 from ht) (k := 0) rfl (by decide) wf_X4_9 dX4_allOf_6 ?_
  refine sw_icmp_ge X 33 (by decide) dX4_allOf_9 (fun q5 => ?_) (fun q5 => ?_)
  · have h := ite_T h q5
    refine sw_iload_n X 2 rfl rfl dX4_allOf_33 ?_
    exact sw_iret X hr hlk dX4_allOf_34 (by cases h; rfl)
  · have h := ite_F h q5
    refine sw_aload_n X 0 rfl rfl dX4_allOf_12 ?_
    refine sw_iload_n X 3 rfl rfl dX4_allOf_13 ?_
    refine sw_iload_n X 1 rfl rfl dX4_allOf_14 ?_
    obtain ⟨r7, c6, h⟩ := bo_E h
    refine sw_callVI X (o := t) (As := (fun g => [.int x2, .int a1])) sw_cl4 (show sw_kd t = 4 from ht) ws_X4_isOf (by omega) (c_X4_isOf F (show sw_kd t = 4 from ht) x2 a1 st c6) rfl rfl (Nat.le_of_ble_eq_true rfl) wm_X4_90 dX4_allOf_15 ?_
    refine jn1_E (fun (x8 : Int32) => sw_V p l e 2 s m args below meth c g (sw_A g s.heap.size) (sw_QI below g args s r st) 4 27 [(0, .ref (g.1 t)), (1, .int a1), (2, .int x8), (3, .int x2)] [] st) h (fun x8 h => ?_) (fun k9 J10 h => ?_)
    · obtain ⟨x11, ex11⟩ : ∃ y : Int32, y = x2 + 1 := ⟨_, rfl⟩
      have h := nm_E h ex11
      refine sw_iinc X 3 x11 [(3, .int x11), (0, .ref (g.1 t)), (1, .int a1), (2, .int x8)] rfl (by rw [ex11]; rfl) (by decide) rfl dX4_allOf_27 ?_
      refine sw_goto X 4 (by decide) dX4_allOf_30 ?_
      refine sw_sub [1, 2, 3, 0] rfl ?_
      exact ih4 _ _ h
    · refine sw_if_eq X 27 (by decide) dX4_allOf_18 (fun q12 => ?_) (fun q12 => ?_)
      · have h := ite_T h q12
        exact J10 _ h
      · have h := ite_F h q12
        refine sw_iload_n X 2 rfl rfl dX4_allOf_21 ?_
        refine sw_iconst X (v := 1) (by decide) dX4_allOf_22 ?_
        refine sw_iload_n X 3 rfl rfl dX4_allOf_23 ?_
        refine sw_ishl X dX4_allOf_24 ?_
        refine sw_ior X dX4_allOf_25 ?_
        refine sw_topi (fun x13 ex13 => ?_)
        have h := nm_E h ex13
        refine sw_istore_n X [(2, .int x13), (0, .ref (g.1 t)), (1, .int a1), (3, .int x2)] rfl (by decide) rfl dX4_allOf_26 ?_
        refine sw_sub [1, 2, 0, 3] rfl ?_
        exact J10 _ h
theorem dX4_turns_0 : decode cX4_turns 0 = .ok (.aload_n 0, 1) := by decide +kernel
theorem dX4_turns_1 : decode cX4_turns 1 = .ok (.getfield 19, 3) := by decide +kernel
theorem dX4_turns_4 : decode cX4_turns 4 = .ok (.iload_n 1, 1) := by decide +kernel
theorem dX4_turns_5 : decode cX4_turns 5 = .ok (.iaload, 1) := by decide +kernel
theorem dX4_turns_6 : decode cX4_turns 6 = .ok (.istore 4, 2) := by decide +kernel
theorem dX4_turns_8 : decode cX4_turns 8 = .ok (.iload_n 3, 1) := by decide +kernel
theorem dX4_turns_9 : decode cX4_turns 9 = .ok (.iconst 1, 1) := by decide +kernel
theorem dX4_turns_10 : decode cX4_turns 10 = .ok (.iload_n 1, 1) := by decide +kernel
theorem dX4_turns_11 : decode cX4_turns 11 = .ok (.ishl, 1) := by decide +kernel
theorem dX4_turns_12 : decode cX4_turns 12 = .ok (.iconst (-1), 1) := by decide +kernel
theorem dX4_turns_13 : decode cX4_turns 13 = .ok (.ixor, 1) := by decide +kernel
theorem dX4_turns_14 : decode cX4_turns 14 = .ok (.iand, 1) := by decide +kernel
theorem dX4_turns_15 : decode cX4_turns 15 = .ok (.istore 5, 2) := by decide +kernel
theorem dX4_turns_17 : decode cX4_turns 17 = .ok (.aload_n 0, 1) := by decide +kernel
theorem dX4_turns_18 : decode cX4_turns 18 = .ok (.getfield 15, 3) := by decide +kernel
theorem dX4_turns_21 : decode cX4_turns 21 = .ok (.iload_n 1, 1) := by decide +kernel
theorem dX4_turns_22 : decode cX4_turns 22 = .ok (.iaload, 1) := by decide +kernel
theorem dX4_turns_23 : decode cX4_turns 23 = .ok (.tableswitch 94 1 5 #[33, 41, 48, 63, 81], 33) := by decide +kernel
theorem dX4_turns_56 : decode cX4_turns 56 = .ok (.iload 4, 2) := by decide +kernel
theorem dX4_turns_58 : decode cX4_turns 58 = .ok (.iload 4, 2) := by decide +kernel
theorem dX4_turns_60 : decode cX4_turns 60 = .ok (.iconst 2, 1) := by decide +kernel
theorem dX4_turns_61 : decode cX4_turns 61 = .ok (.idiv, 1) := by decide +kernel
theorem dX4_turns_62 : decode cX4_turns 62 = .ok (.iadd, 1) := by decide +kernel
theorem dX4_turns_63 : decode cX4_turns 63 = .ok (.ireturn, 1) := by decide +kernel
theorem dX4_turns_64 : decode cX4_turns 64 = .ok (.iload 4, 2) := by decide +kernel
theorem dX4_turns_66 : decode cX4_turns 66 = .ok (.iconst 4, 1) := by decide +kernel
theorem dX4_turns_67 : decode cX4_turns 67 = .ok (.idiv, 1) := by decide +kernel
theorem dX4_turns_68 : decode cX4_turns 68 = .ok (.iconst 1, 1) := by decide +kernel
theorem dX4_turns_69 : decode cX4_turns 69 = .ok (.iadd, 1) := by decide +kernel
theorem dX4_turns_70 : decode cX4_turns 70 = .ok (.ireturn, 1) := by decide +kernel
theorem dX4_turns_71 : decode cX4_turns 71 = .ok (.iload 4, 2) := by decide +kernel
theorem dX4_turns_73 : decode cX4_turns 73 = .ok (.iload 5, 2) := by decide +kernel
theorem dX4_turns_75 : decode cX4_turns 75 = .ok (.aload_n 0, 1) := by decide +kernel
theorem dX4_turns_76 : decode cX4_turns 76 = .ok (.iconst 3, 1) := by decide +kernel
theorem dX4_turns_77 : decode cX4_turns 77 = .ok (.invokevirtual 100, 3) := by decide +kernel
theorem dX4_turns_80 : decode cX4_turns 80 = .ok (.iand, 1) := by decide +kernel
theorem dX4_turns_81 : decode cX4_turns 81 = .ok (.invokestatic 103, 3) := by decide +kernel
theorem dX4_turns_84 : decode cX4_turns 84 = .ok (.iadd, 1) := by decide +kernel
theorem dX4_turns_85 : decode cX4_turns 85 = .ok (.ireturn, 1) := by decide +kernel
theorem dX4_turns_86 : decode cX4_turns 86 = .ok (.iload_n 2, 1) := by decide +kernel
theorem dX4_turns_87 : decode cX4_turns 87 = .ok (.bipush 40, 2) := by decide +kernel
theorem dX4_turns_89 : decode cX4_turns 89 = .ok (.if_icmp .le 7, 3) := by decide +kernel
theorem dX4_turns_92 : decode cX4_turns 92 = .ok (.iconst 0, 1) := by decide +kernel
theorem dX4_turns_93 : decode cX4_turns 93 = .ok (.goto 10, 3) := by decide +kernel
theorem dX4_turns_96 : decode cX4_turns 96 = .ok (.iload 4, 2) := by decide +kernel
theorem dX4_turns_98 : decode cX4_turns 98 = .ok (.iload 4, 2) := by decide +kernel
theorem dX4_turns_100 : decode cX4_turns 100 = .ok (.iconst 2, 1) := by decide +kernel
theorem dX4_turns_101 : decode cX4_turns 101 = .ok (.idiv, 1) := by decide +kernel
theorem dX4_turns_102 : decode cX4_turns 102 = .ok (.iadd, 1) := by decide +kernel
theorem dX4_turns_103 : decode cX4_turns 103 = .ok (.ireturn, 1) := by decide +kernel
theorem dX4_turns_104 : decode cX4_turns 104 = .ok (.iload 4, 2) := by decide +kernel
theorem dX4_turns_106 : decode cX4_turns 106 = .ok (.iconst 4, 1) := by decide +kernel
theorem dX4_turns_107 : decode cX4_turns 107 = .ok (.idiv, 1) := by decide +kernel
theorem dX4_turns_108 : decode cX4_turns 108 = .ok (.iconst 1, 1) := by decide +kernel
theorem dX4_turns_109 : decode cX4_turns 109 = .ok (.iadd, 1) := by decide +kernel
theorem dX4_turns_110 : decode cX4_turns 110 = .ok (.iload 5, 2) := by decide +kernel
theorem dX4_turns_112 : decode cX4_turns 112 = .ok (.invokestatic 103, 3) := by decide +kernel
theorem dX4_turns_115 : decode cX4_turns 115 = .ok (.iadd, 1) := by decide +kernel
theorem dX4_turns_116 : decode cX4_turns 116 = .ok (.ireturn, 1) := by decide +kernel
theorem dX4_turns_117 : decode cX4_turns 117 = .ok (.iload 4, 2) := by decide +kernel
theorem dX4_turns_119 : decode cX4_turns 119 = .ok (.ireturn, 1) := by decide +kernel
def j_X4_turns (F : Nat) (t : Nat) (a1 : Int32) (a2 : Int32) (a3 : Int32) (st : sw_St) : Option Int32 :=
bnd a1 6 (
nm (st.1 (t + 2) (a1 : Int32).toNatClampNeg) (fun (x2 : Int32) =>
nm (a3 &&& ((1 <<< (a1 &&& 31)) ^^^ (-1))) (fun (x3 : Int32) =>
bnd a1 6 (
(if (st.1 (t + 1) (a1 : Int32).toNatClampNeg) = 1 then (
 some (x2 + (x2 / 2)))
else (
 (if (st.1 (t + 1) (a1 : Int32).toNatClampNeg) = 2 then (
  some ((x2 / 4) + 1))
 else (
  (if (st.1 (t + 1) (a1 : Int32).toNatClampNeg) = 3 then (
   bo (j_X4_allOf F t 3 st) (fun (r9 : Int32) =>
   bo (j_J6_bitCount_0f7a4 F (x3 &&& r9) st) (fun (r11 : Int32) =>
   some (x2 + r11))))
  else (
   (if (st.1 (t + 1) (a1 : Int32).toNatClampNeg) = 4 then (
    jn (fun (x13 : Int32) => 
      some x13) (fun k14 =>
     (if a2 ≤ 40 then (
      k14 (x2 + (x2 / 2)))
     else (
      k14 0))))
   else (
    (if (st.1 (t + 1) (a1 : Int32).toNatClampNeg) = 5 then (
     bo (j_J6_bitCount_0f7a4 F x3 st) (fun (r19 : Int32) =>
     some (((x2 / 4) + 1) + r19)))
    else (
     some x2))))))))))))))
set_option maxHeartbeats 4000000 in
set_option maxRecDepth 100000 in
theorem c_X4_turns (F : Nat) {t : Nat} (ht : sw_kd t = 4) (a1 : Int32) (a2 : Int32) (a3 : Int32) (st : sw_St) {r : Int32} (h : j_X4_turns F t a1 a2 a3 st = some r) : sw_CI yX4_turns (.code yX4_turns cX4_turns 6 (some .int)) 3 (fun g => [.ref (g.1 t), .int a1, .int a2, .int a3]) st r st := by
  refine sw_entI RX4 (fun g => [(0, .ref (g.1 t)), (1, .int a1), (2, .int a2), (3, .int a3)]) (by decide) rfl (fun _ => Nat.le_of_ble_eq_true rfl) (fun _ => rfl) ?_
  intro p l e s m args below meth c g X hr hlk
  unfold j_X4_turns at h
  refine sw_aload_n X 0 rfl rfl dX4_turns_0 ?_
  refine sw_getR X sw_cl4 (show sw_kd t = 4 from ht) (k := 2) rfl (by decide) (o1 := t + 2) (sw_rfT st ht : sw_rf st t 2 = t + 2) wf_X4_19 dX4_turns_1 ?_
  refine sw_iload_n X 1 rfl rfl dX4_turns_4 ?_
  obtain ⟨q1, h⟩ := bnd_E h
  refine sw_iald X (show sw_kd (t + 2) = 8 from (sw_tk2 ht)) (n := 6) (sw_tn2 ht) q1 dX4_turns_5 ?_
  refine sw_topi (fun x2 ex2 => ?_)
  have h := nm_E h ex2
  refine sw_istore X [(4, .int x2), (0, .ref (g.1 t)), (1, .int a1), (2, .int a2), (3, .int a3)] (by decide) rfl dX4_turns_6 ?_
  refine sw_iload_n X 4 rfl rfl dX4_turns_8 ?_
  refine sw_iconst X (v := 1) (by decide) dX4_turns_9 ?_
  refine sw_iload_n X 2 rfl rfl dX4_turns_10 ?_
  refine sw_ishl X dX4_turns_11 ?_
  refine sw_iconst X (v := (-1)) (by decide) dX4_turns_12 ?_
  refine sw_ixor X dX4_turns_13 ?_
  refine sw_iand X dX4_turns_14 ?_
  refine sw_topi (fun x3 ex3 => ?_)
  have h := nm_E h ex3
  refine sw_istore X [(5, .int x3), (4, .int x2), (0, .ref (g.1 t)), (1, .int a1), (2, .int a2), (3, .int a3)] (by decide) rfl dX4_turns_15 ?_
  refine sw_aload_n X 2 rfl rfl dX4_turns_17 ?_
  refine sw_getR X sw_cl4 (show sw_kd t = 4 from ht) (k := 1) rfl (by decide) (o1 := t + 1) (sw_rfT st ht : sw_rf st t 1 = t + 1) wf_X4_15 dX4_turns_18 ?_
  refine sw_iload_n X 3 rfl rfl dX4_turns_21 ?_
  obtain ⟨q4, h⟩ := bnd_E h
  refine sw_iald X (show sw_kd (t + 1) = 8 from (sw_tk1 ht)) (n := 6) (sw_tn1 ht) q4 dX4_turns_22 ?_
  by_cases q5 : (st.1 (t + 1) (a1 : Int32).toNatClampNeg) = 1
  · have h := ite_T h q5
    refine sw_tabIn X (k := 1) (off := 33) 56 q5 (by decide) (by decide) (by decide) (by decide) dX4_turns_23 ?_
    refine sw_iload X 1 rfl dX4_turns_56 ?_
    refine sw_iload X 1 rfl dX4_turns_58 ?_
    refine sw_iconst X (v := 2) (by decide) dX4_turns_60 ?_
    refine sw_idiv X (by decide) dX4_turns_61 ?_
    refine sw_iadd X dX4_turns_62 ?_
    exact sw_iret X hr hlk dX4_turns_63 (by cases h; rfl)
  · have h := ite_F h q5
    by_cases q6 : (st.1 (t + 1) (a1 : Int32).toNatClampNeg) = 2
    · have h := ite_T h q6
      refine sw_tabIn X (k := 2) (off := 41) 64 q6 (by decide) (by decide) (by decide) (by decide) dX4_turns_23 ?_
      refine sw_iload X 1 rfl dX4_turns_64 ?_
      refine sw_iconst X (v := 4) (by decide) dX4_turns_66 ?_
      refine sw_idiv X (by decide) dX4_turns_67 ?_
      refine sw_iconst X (v := 1) (by decide) dX4_turns_68 ?_
      refine sw_iadd X dX4_turns_69 ?_
      exact sw_iret X hr hlk dX4_turns_70 (by cases h; rfl)
    · have h := ite_F h q6
      by_cases q7 : (st.1 (t + 1) (a1 : Int32).toNatClampNeg) = 3
      · have h := ite_T h q7
        refine sw_tabIn X (k := 3) (off := 48) 71 q7 (by decide) (by decide) (by decide) (by decide) dX4_turns_23 ?_
        refine sw_iload X 1 rfl dX4_turns_71 ?_
        refine sw_iload X 0 rfl dX4_turns_73 ?_
        refine sw_aload_n X 2 rfl rfl dX4_turns_75 ?_
        refine sw_iconst X (v := 3) (by decide) dX4_turns_76 ?_
        obtain ⟨r9, c8, h⟩ := bo_E h
        refine sw_callVI X (o := t) (As := (fun g => [.int 3])) sw_cl4 (show sw_kd t = 4 from ht) ws_X4_allOf (by omega) (c_X4_allOf F (show sw_kd t = 4 from ht) 3 st c8) rfl rfl (Nat.le_of_ble_eq_true rfl) wm_X4_100 dX4_turns_77 ?_
        refine sw_iand X dX4_turns_80 ?_
        obtain ⟨r11, c10, h⟩ := bo_E h
        refine sw_callSI X (As := (fun g => [.int (x3 &&& r9)])) ws_J6_bitCount_0f7a4 (by omega) (c_J6_bitCount_0f7a4 F (x3 &&& r9) st c10) rfl rfl (Nat.le_of_ble_eq_true rfl) wm_X4_103 dX4_turns_81 ?_
        refine sw_iadd X dX4_turns_84 ?_
        exact sw_iret X hr hlk dX4_turns_85 (by cases h; rfl)
      · have h := ite_F h q7
        by_cases q12 : (st.1 (t + 1) (a1 : Int32).toNatClampNeg) = 4
        · have h := ite_T h q12
          refine sw_tabIn X (k := 4) (off := 63) 86 q12 (by decide) (by decide) (by decide) (by decide) dX4_turns_23 ?_
          refine sw_iload_n X 4 rfl rfl dX4_turns_86 ?_
          refine sw_bipush X (v := 40) (by decide) dX4_turns_87 ?_
          refine jn1_E (fun (x13 : Int32) => sw_V p l e 3 s m args below meth c g (sw_A g s.heap.size) (sw_QI below g args s r st) 6 103 [] [.int x13] st) h (fun x13 h => ?_) (fun k14 J15 h => ?_)
          · exact sw_iret X hr hlk dX4_turns_103 (by cases h; rfl)
          · refine sw_icmp_le X 96 (by decide) dX4_turns_89 (fun q16 => ?_) (fun q16 => ?_)
            · have h := ite_T h q16
              refine sw_iload X 1 rfl dX4_turns_96 ?_
              refine sw_iload X 1 rfl dX4_turns_98 ?_
              refine sw_iconst X (v := 2) (by decide) dX4_turns_100 ?_
              refine sw_idiv X (by decide) dX4_turns_101 ?_
              refine sw_iadd X dX4_turns_102 ?_
              refine sw_sub [] rfl ?_
              exact J15 _ h
            · have h := ite_F h q16
              refine sw_iconst X (v := 0) (by decide) dX4_turns_92 ?_
              refine sw_goto X 103 (by decide) dX4_turns_93 ?_
              refine sw_sub [] rfl ?_
              exact J15 _ h
        · have h := ite_F h q12
          by_cases q17 : (st.1 (t + 1) (a1 : Int32).toNatClampNeg) = 5
          · have h := ite_T h q17
            refine sw_tabIn X (k := 5) (off := 81) 104 q17 (by decide) (by decide) (by decide) (by decide) dX4_turns_23 ?_
            refine sw_iload X 1 rfl dX4_turns_104 ?_
            refine sw_iconst X (v := 4) (by decide) dX4_turns_106 ?_
            refine sw_idiv X (by decide) dX4_turns_107 ?_
            refine sw_iconst X (v := 1) (by decide) dX4_turns_108 ?_
            refine sw_iadd X dX4_turns_109 ?_
            refine sw_iload X 0 rfl dX4_turns_110 ?_
            obtain ⟨r19, c18, h⟩ := bo_E h
            refine sw_callSI X (As := (fun g => [.int x3])) ws_J6_bitCount_0f7a4 (by omega) (c_J6_bitCount_0f7a4 F x3 st c18) rfl rfl (Nat.le_of_ble_eq_true rfl) wm_X4_103 dX4_turns_112 ?_
            refine sw_iadd X dX4_turns_115 ?_
            exact sw_iret X hr hlk dX4_turns_116 (by cases h; rfl)
          · have h := ite_F h q17
            have n0 := lv_neT q5 (show (1 : Int32).toInt = 1 by decide)
            have n1 := lv_neT q6 (show (2 : Int32).toInt = 2 by decide)
            have n2 := lv_neT q7 (show (3 : Int32).toInt = 3 by decide)
            have n3 := lv_neT q12 (show (4 : Int32).toInt = 4 by decide)
            have n4 := lv_neT q17 (show (5 : Int32).toInt = 5 by decide)
            refine sw_tabOut X 117 (by omega) (by decide) dX4_turns_23 ?_
            refine sw_iload X 1 rfl dX4_turns_117 ?_
            exact sw_iret X hr hlk dX4_turns_119 (by cases h; rfl)
theorem dX4_woundBy_0 : decode cX4_woundBy 0 = .ok (.aload_n 0, 1) := by decide +kernel
theorem dX4_woundBy_1 : decode cX4_woundBy 1 = .ok (.iload_n 1, 1) := by decide +kernel
theorem dX4_woundBy_2 : decode cX4_woundBy 2 = .ok (.iload_n 2, 1) := by decide +kernel
theorem dX4_woundBy_3 : decode cX4_woundBy 3 = .ok (.iload_n 3, 1) := by decide +kernel
theorem dX4_woundBy_4 : decode cX4_woundBy 4 = .ok (.invokevirtual 97, 3) := by decide +kernel
theorem dX4_woundBy_7 : decode cX4_woundBy 7 = .ok (.istore 4, 2) := by decide +kernel
theorem dX4_woundBy_9 : decode cX4_woundBy 9 = .ok (.aload_n 0, 1) := by decide +kernel
theorem dX4_woundBy_10 : decode cX4_woundBy 10 = .ok (.getfield 22, 3) := by decide +kernel
theorem dX4_woundBy_13 : decode cX4_woundBy 13 = .ok (.iload_n 1, 1) := by decide +kernel
theorem dX4_woundBy_14 : decode cX4_woundBy 14 = .ok (.iaload, 1) := by decide +kernel
theorem dX4_woundBy_15 : decode cX4_woundBy 15 = .ok (.ifCond .ne 15, 3) := by decide +kernel
theorem dX4_woundBy_18 : decode cX4_woundBy 18 = .ok (.bipush 99, 2) := by decide +kernel
theorem dX4_woundBy_20 : decode cX4_woundBy 20 = .ok (.iload_n 2, 1) := by decide +kernel
theorem dX4_woundBy_21 : decode cX4_woundBy 21 = .ok (.iload 4, 2) := by decide +kernel
theorem dX4_woundBy_23 : decode cX4_woundBy 23 = .ok (.iadd, 1) := by decide +kernel
theorem dX4_woundBy_24 : decode cX4_woundBy 24 = .ok (.invokestatic 114, 3) := by decide +kernel
theorem dX4_woundBy_27 : decode cX4_woundBy 27 = .ok (.goto 11, 3) := by decide +kernel
theorem dX4_woundBy_30 : decode cX4_woundBy 30 = .ok (.iconst 0, 1) := by decide +kernel
theorem dX4_woundBy_31 : decode cX4_woundBy 31 = .ok (.iload_n 2, 1) := by decide +kernel
theorem dX4_woundBy_32 : decode cX4_woundBy 32 = .ok (.iload 4, 2) := by decide +kernel
theorem dX4_woundBy_34 : decode cX4_woundBy 34 = .ok (.isub, 1) := by decide +kernel
theorem dX4_woundBy_35 : decode cX4_woundBy 35 = .ok (.invokestatic 108, 3) := by decide +kernel
theorem dX4_woundBy_38 : decode cX4_woundBy 38 = .ok (.istore 5, 2) := by decide +kernel
theorem dX4_woundBy_40 : decode cX4_woundBy 40 = .ok (.iload 5, 2) := by decide +kernel
theorem dX4_woundBy_42 : decode cX4_woundBy 42 = .ok (.bipush 40, 2) := by decide +kernel
theorem dX4_woundBy_44 : decode cX4_woundBy 44 = .ok (.if_icmp .le 17, 3) := by decide +kernel
theorem dX4_woundBy_47 : decode cX4_woundBy 47 = .ok (.iload 5, 2) := by decide +kernel
theorem dX4_woundBy_49 : decode cX4_woundBy 49 = .ok (.iload 5, 2) := by decide +kernel
theorem dX4_woundBy_51 : decode cX4_woundBy 51 = .ok (.bipush 40, 2) := by decide +kernel
theorem dX4_woundBy_53 : decode cX4_woundBy 53 = .ok (.isub, 1) := by decide +kernel
theorem dX4_woundBy_54 : decode cX4_woundBy 54 = .ok (.bipush 10, 2) := by decide +kernel
theorem dX4_woundBy_56 : decode cX4_woundBy 56 = .ok (.idiv, 1) := by decide +kernel
theorem dX4_woundBy_57 : decode cX4_woundBy 57 = .ok (.isub, 1) := by decide +kernel
theorem dX4_woundBy_58 : decode cX4_woundBy 58 = .ok (.goto 5, 3) := by decide +kernel
theorem dX4_woundBy_61 : decode cX4_woundBy 61 = .ok (.iload 5, 2) := by decide +kernel
theorem dX4_woundBy_63 : decode cX4_woundBy 63 = .ok (.ireturn, 1) := by decide +kernel
def j_X4_woundBy (F : Nat) (t : Nat) (a1 : Int32) (a2 : Int32) (a3 : Int32) (st : sw_St) : Option Int32 :=
bo (j_X4_turns F t a1 a2 a3 st) (fun (r2 : Int32) =>
bnd a1 6 (
jn (fun (x4 : Int32) => 
  jn (fun (x7 : Int32) => 
    some x7) (fun k8 =>
   (if x4 ≤ 40 then (
    k8 x4)
   else (
    k8 (x4 - ((x4 - 40) / 10)))))) (fun k5 =>
 (if (st.1 (t + 3) (a1 : Int32).toNatClampNeg) = 0 then (
  k5 (if (a2 + r2) < 99 then (a2 + r2) else 99))
 else (
  k5 (if 0 < (a2 - r2) then (a2 - r2) else 0))))))
set_option maxHeartbeats 4000000 in
set_option maxRecDepth 100000 in
theorem c_X4_woundBy (F : Nat) {t : Nat} (ht : sw_kd t = 4) (a1 : Int32) (a2 : Int32) (a3 : Int32) (st : sw_St) {r : Int32} (h : j_X4_woundBy F t a1 a2 a3 st = some r) : sw_CI yX4_woundBy (.code yX4_woundBy cX4_woundBy 6 (some .int)) 4 (fun g => [.ref (g.1 t), .int a1, .int a2, .int a3]) st r st := by
  refine sw_entI RX4 (fun g => [(0, .ref (g.1 t)), (1, .int a1), (2, .int a2), (3, .int a3)]) (by decide) rfl (fun _ => Nat.le_of_ble_eq_true rfl) (fun _ => rfl) ?_
  intro p l e s m args below meth c g X hr hlk
  unfold j_X4_woundBy at h
  refine sw_aload_n X 0 rfl rfl dX4_woundBy_0 ?_
  refine sw_iload_n X 1 rfl rfl dX4_woundBy_1 ?_
  refine sw_iload_n X 2 rfl rfl dX4_woundBy_2 ?_
  refine sw_iload_n X 3 rfl rfl dX4_woundBy_3 ?_
  obtain ⟨r2, c1, h⟩ := bo_E h
  refine sw_callVI X (o := t) (As := (fun g => [.int a1, .int a2, .int a3])) sw_cl4 (show sw_kd t = 4 from ht) ws_X4_turns (by omega) (c_X4_turns F (show sw_kd t = 4 from ht) a1 a2 a3 st c1) rfl rfl (Nat.le_of_ble_eq_true rfl) wm_X4_97 dX4_woundBy_4 ?_
  refine sw_istore X [(4, .int r2), (0, .ref (g.1 t)), (1, .int a1), (2, .int a2), (3, .int a3)] (by decide) rfl dX4_woundBy_7 ?_
  refine sw_aload_n X 1 rfl rfl dX4_woundBy_9 ?_
  refine sw_getR X sw_cl4 (show sw_kd t = 4 from ht) (k := 3) rfl (by decide) (o1 := t + 3) (sw_rfT st ht : sw_rf st t 3 = t + 3) wf_X4_22 dX4_woundBy_10 ?_
  refine sw_iload_n X 2 rfl rfl dX4_woundBy_13 ?_
  obtain ⟨q3, h⟩ := bnd_E h
  refine sw_iald X (show sw_kd (t + 3) = 8 from (sw_tk3 ht)) (n := 6) (sw_tn3 ht) q3 dX4_woundBy_14 ?_
  refine jn1_E (fun (x4 : Int32) => sw_V p l e 4 s m args below meth c g (sw_A g s.heap.size) (sw_QI below g args s r st) 6 38 [] [.int x4] st) h (fun x4 h => ?_) (fun k5 J6 h => ?_)
  · refine sw_istore X [(5, .int x4)] (by decide) rfl dX4_woundBy_38 ?_
    refine sw_iload X 0 rfl dX4_woundBy_40 ?_
    refine sw_bipush X (v := 40) (by decide) dX4_woundBy_42 ?_
    refine jn1_E (fun (x7 : Int32) => sw_V p l e 4 s m args below meth c g (sw_A g s.heap.size) (sw_QI below g args s r st) 6 63 [] [.int x7] st) h (fun x7 h => ?_) (fun k8 J9 h => ?_)
    · exact sw_iret X hr hlk dX4_woundBy_63 (by cases h; rfl)
    · refine sw_icmp_le X 61 (by decide) dX4_woundBy_44 (fun q10 => ?_) (fun q10 => ?_)
      · have h := ite_T h q10
        refine sw_iload X 0 rfl dX4_woundBy_61 ?_
        refine sw_sub [] rfl ?_
        exact J9 _ h
      · have h := ite_F h q10
        refine sw_iload X 0 rfl dX4_woundBy_47 ?_
        refine sw_iload X 0 rfl dX4_woundBy_49 ?_
        refine sw_bipush X (v := 40) (by decide) dX4_woundBy_51 ?_
        refine sw_isub X dX4_woundBy_53 ?_
        refine sw_bipush X (v := 10) (by decide) dX4_woundBy_54 ?_
        refine sw_idiv X (by decide) dX4_woundBy_56 ?_
        refine sw_isub X dX4_woundBy_57 ?_
        refine sw_goto X 63 (by decide) dX4_woundBy_58 ?_
        refine sw_sub [] rfl ?_
        exact J9 _ h
  · refine sw_if_ne X 30 (by decide) dX4_woundBy_15 (fun q11 => ?_) (fun q11 => ?_)
    · have h := ite_F h q11
      refine sw_iconst X (v := 0) (by decide) dX4_woundBy_30 ?_
      refine sw_iload_n X 3 rfl rfl dX4_woundBy_31 ?_
      refine sw_iload X 0 rfl dX4_woundBy_32 ?_
      refine sw_isub X dX4_woundBy_34 ?_
      refine sw_mmax X wm_X4_108 ws_max.1 ws_max.2.1 ws_max.2.2 (by omega) (Nat.le_of_ble_eq_true rfl) dX4_woundBy_35 ?_
      refine sw_sub [] rfl ?_
      exact J6 _ h
    · have h := ite_T h q11
      refine sw_bipush X (v := 99) (by decide) dX4_woundBy_18 ?_
      refine sw_iload_n X 3 rfl rfl dX4_woundBy_20 ?_
      refine sw_iload X 0 rfl dX4_woundBy_21 ?_
      refine sw_iadd X dX4_woundBy_23 ?_
      refine sw_mmin X wm_X4_114 ws_min.1 ws_min.2.1 ws_min.2.2 (by omega) (Nat.le_of_ble_eq_true rfl) dX4_woundBy_24 ?_
      refine sw_goto X 38 (by decide) dX4_woundBy_27 ?_
      refine sw_sub [] rfl ?_
      exact J6 _ h
theorem dX4_woundBySet_0 : decode cX4_woundBySet 0 = .ok (.aload_n 0, 1) := by decide +kernel
theorem dX4_woundBySet_1 : decode cX4_woundBySet 1 = .ok (.getfield 34, 3) := by decide +kernel
theorem dX4_woundBySet_4 : decode cX4_woundBySet 4 = .ok (.istore_n 2, 1) := by decide +kernel
theorem dX4_woundBySet_5 : decode cX4_woundBySet 5 = .ok (.aload_n 0, 1) := by decide +kernel
theorem dX4_woundBySet_6 : decode cX4_woundBySet 6 = .ok (.getfield 46, 3) := by decide +kernel
theorem dX4_woundBySet_9 : decode cX4_woundBySet 9 = .ok (.istore_n 3, 1) := by decide +kernel
theorem dX4_woundBySet_10 : decode cX4_woundBySet 10 = .ok (.iconst 0, 1) := by decide +kernel
theorem dX4_woundBySet_11 : decode cX4_woundBySet 11 = .ok (.istore 4, 2) := by decide +kernel
theorem dX4_woundBySet_13 : decode cX4_woundBySet 13 = .ok (.iload 4, 2) := by decide +kernel
theorem dX4_woundBySet_15 : decode cX4_woundBySet 15 = .ok (.aload_n 0, 1) := by decide +kernel
theorem dX4_woundBySet_16 : decode cX4_woundBySet 16 = .ok (.getfield 9, 3) := by decide +kernel
theorem dX4_woundBySet_19 : decode cX4_woundBySet 19 = .ok (.if_icmp .ge 35, 3) := by decide +kernel
theorem dX4_woundBySet_22 : decode cX4_woundBySet 22 = .ok (.iload_n 1, 1) := by decide +kernel
theorem dX4_woundBySet_23 : decode cX4_woundBySet 23 = .ok (.iload 4, 2) := by decide +kernel
theorem dX4_woundBySet_25 : decode cX4_woundBySet 25 = .ok (.ishr, 1) := by decide +kernel
theorem dX4_woundBySet_26 : decode cX4_woundBySet 26 = .ok (.iconst 1, 1) := by decide +kernel
theorem dX4_woundBySet_27 : decode cX4_woundBySet 27 = .ok (.iand, 1) := by decide +kernel
theorem dX4_woundBySet_28 : decode cX4_woundBySet 28 = .ok (.iconst 1, 1) := by decide +kernel
theorem dX4_woundBySet_29 : decode cX4_woundBySet 29 = .ok (.if_icmp .ne 19, 3) := by decide +kernel
theorem dX4_woundBySet_32 : decode cX4_woundBySet 32 = .ok (.aload_n 0, 1) := by decide +kernel
theorem dX4_woundBySet_33 : decode cX4_woundBySet 33 = .ok (.iload 4, 2) := by decide +kernel
theorem dX4_woundBySet_35 : decode cX4_woundBySet 35 = .ok (.iload_n 2, 1) := by decide +kernel
theorem dX4_woundBySet_36 : decode cX4_woundBySet 36 = .ok (.iload_n 3, 1) := by decide +kernel
theorem dX4_woundBySet_37 : decode cX4_woundBySet 37 = .ok (.invokevirtual 79, 3) := by decide +kernel
theorem dX4_woundBySet_40 : decode cX4_woundBySet 40 = .ok (.istore_n 2, 1) := by decide +kernel
theorem dX4_woundBySet_41 : decode cX4_woundBySet 41 = .ok (.iload_n 3, 1) := by decide +kernel
theorem dX4_woundBySet_42 : decode cX4_woundBySet 42 = .ok (.iconst 1, 1) := by decide +kernel
theorem dX4_woundBySet_43 : decode cX4_woundBySet 43 = .ok (.iload 4, 2) := by decide +kernel
theorem dX4_woundBySet_45 : decode cX4_woundBySet 45 = .ok (.ishl, 1) := by decide +kernel
theorem dX4_woundBySet_46 : decode cX4_woundBySet 46 = .ok (.ior, 1) := by decide +kernel
theorem dX4_woundBySet_47 : decode cX4_woundBySet 47 = .ok (.istore_n 3, 1) := by decide +kernel
theorem dX4_woundBySet_48 : decode cX4_woundBySet 48 = .ok (.iinc 4 1, 3) := by decide +kernel
theorem dX4_woundBySet_51 : decode cX4_woundBySet 51 = .ok (.goto (-38), 3) := by decide +kernel
theorem dX4_woundBySet_54 : decode cX4_woundBySet 54 = .ok (.iload_n 2, 1) := by decide +kernel
theorem dX4_woundBySet_55 : decode cX4_woundBySet 55 = .ok (.ireturn, 1) := by decide +kernel
def j_X4_woundBySet (F : Nat) (t : Nat) (a1 : Int32) (st : sw_St) : Option Int32 :=
nm (st.1 t 7) (fun (x1 : Int32) =>
nm (st.1 t 11) (fun (x2 : Int32) =>
lz3 (fun f6 (x3 : Int32) (x4 : Int32) (x5 : Int32) =>
 (if (st.1 t 0) ≤ x5 then (
  some x3)
 else (
  jn (fun (x9 : Int32) (x10 : Int32) => 
    nm (x5 + 1) (fun (x13 : Int32) =>
    f6 x9 x10 x13)) (fun k11 =>
   (if ((a1 >>> (x5 &&& 31)) &&& 1) = 1 then (
    bo (j_X4_woundBy F t x5 x3 x4 st) (fun (r16 : Int32) =>
    nm (x4 ||| (1 <<< (x5 &&& 31))) (fun (x17 : Int32) =>
    k11 r16 x17)))
   else (
    k11 x3 x4)))))) F x1 x2 0))
set_option maxHeartbeats 4000000 in
set_option maxRecDepth 100000 in
theorem c_X4_woundBySet (F : Nat) {t : Nat} (ht : sw_kd t = 4) (a1 : Int32) (st : sw_St) {r : Int32} (h : j_X4_woundBySet F t a1 st = some r) : sw_CI yX4_woundBySet (.code yX4_woundBySet cX4_woundBySet 5 (some .int)) 5 (fun g => [.ref (g.1 t), .int a1]) st r st := by
  refine sw_entI RX4 (fun g => [(0, .ref (g.1 t)), (1, .int a1)]) (by decide) rfl (fun _ => Nat.le_of_ble_eq_true rfl) (fun _ => rfl) ?_
  intro p l e s m args below meth c g X hr hlk
  unfold j_X4_woundBySet at h
  refine sw_aload_n X 0 rfl rfl dX4_woundBySet_0 ?_
  refine sw_getI X sw_cl4 (show sw_kd t = 4 from ht) (k := 7) rfl (by decide) wf_X4_34 dX4_woundBySet_1 ?_
  refine sw_topi (fun x1 ex1 => ?_)
  have h := nm_E h ex1
  refine sw_istore_n X [(2, .int x1), (0, .ref (g.1 t)), (1, .int a1)] rfl (by decide) rfl dX4_woundBySet_4 ?_
  refine sw_aload_n X 1 rfl rfl dX4_woundBySet_5 ?_
  refine sw_getI X sw_cl4 (show sw_kd t = 4 from ht) (k := 11) rfl (by decide) wf_X4_46 dX4_woundBySet_6 ?_
  refine sw_topi (fun x2 ex2 => ?_)
  have h := nm_E h ex2
  refine sw_istore_n X [(3, .int x2), (2, .int x1), (0, .ref (g.1 t)), (1, .int a1)] rfl (by decide) rfl dX4_woundBySet_9 ?_
  refine sw_iconst X (v := 0) (by decide) dX4_woundBySet_10 ?_
  refine sw_istore X [(4, .int 0), (3, .int x2), (2, .int x1), (0, .ref (g.1 t)), (1, .int a1)] (by decide) rfl dX4_woundBySet_11 ?_
  refine sw_sub [3, 4, 2, 1, 0] rfl ?_
  refine lz3_E (fun (x3 : Int32) (x4 : Int32) (x5 : Int32) => sw_V p l e 5 s m args below meth c g (sw_A g s.heap.size) (sw_QI below g args s r st) 5 13 [(0, .ref (g.1 t)), (1, .int a1), (2, .int x3), (3, .int x4), (4, .int x5)] [] st) h (fun f6 ih7 x3 x4 x5 h => ?_)
  refine sw_iload X 4 rfl dX4_woundBySet_13 ?_
  refine sw_aload_n X 0 rfl rfl dX4_woundBySet_15 ?_
  refine sw_getI X sw_cl4 (show sw_kd t = 4 from ht) (k := 0) rfl (by decide) wf_X4_9 dX4_woundBySet_16 ?_
  refine sw_icmp_ge X 54 (by decide) dX4_woundBySet_19 (fun q8 => ?_) (fun q8 => ?_)
  · have h := ite_T h q8
    refine sw_iload_n X 2 rfl rfl dX4_woundBySet_54 ?_
    exact sw_iret X hr hlk dX4_woundBySet_55 (by cases h; rfl)
  · have h := ite_F h q8
    refine sw_iload_n X 1 rfl rfl dX4_woundBySet_22 ?_
    refine sw_iload X 4 rfl dX4_woundBySet_23 ?_
    refine sw_ishr X dX4_woundBySet_25 ?_
    refine sw_iconst X (v := 1) (by decide) dX4_woundBySet_26 ?_
    refine sw_iand X dX4_woundBySet_27 ?_
    refine sw_iconst X (v := 1) (by decide) dX4_woundBySet_28 ?_
    refine jn2_E (fun (x9 : Int32) (x10 : Int32) => sw_V p l e 5 s m args below meth c g (sw_A g s.heap.size) (sw_QI below g args s r st) 5 48 [(0, .ref (g.1 t)), (1, .int a1), (2, .int x9), (3, .int x10), (4, .int x5)] [] st) h (fun x9 x10 h => ?_) (fun k11 J12 h => ?_)
    · obtain ⟨x13, ex13⟩ : ∃ y : Int32, y = x5 + 1 := ⟨_, rfl⟩
      have h := nm_E h ex13
      refine sw_iinc X 4 x13 [(4, .int x13), (0, .ref (g.1 t)), (1, .int a1), (2, .int x9), (3, .int x10)] rfl (by rw [ex13]; rfl) (by decide) rfl dX4_woundBySet_48 ?_
      refine sw_goto X 13 (by decide) dX4_woundBySet_51 ?_
      refine sw_sub [1, 2, 3, 4, 0] rfl ?_
      exact ih7 _ _ _ h
    · refine sw_icmp_ne X 48 (by decide) dX4_woundBySet_29 (fun q14 => ?_) (fun q14 => ?_)
      · have h := ite_F h q14
        exact J12 _ _ h
      · have h := ite_T h q14
        refine sw_aload_n X 0 rfl rfl dX4_woundBySet_32 ?_
        refine sw_iload X 4 rfl dX4_woundBySet_33 ?_
        refine sw_iload_n X 2 rfl rfl dX4_woundBySet_35 ?_
        refine sw_iload_n X 3 rfl rfl dX4_woundBySet_36 ?_
        obtain ⟨r16, c15, h⟩ := bo_E h
        refine sw_callVI X (o := t) (As := (fun g => [.int x5, .int x3, .int x4])) sw_cl4 (show sw_kd t = 4 from ht) ws_X4_woundBy (by omega) (c_X4_woundBy F (show sw_kd t = 4 from ht) x5 x3 x4 st c15) rfl rfl (Nat.le_of_ble_eq_true rfl) wm_X4_79 dX4_woundBySet_37 ?_
        refine sw_istore_n X [(2, .int r16), (0, .ref (g.1 t)), (1, .int a1), (3, .int x4), (4, .int x5)] rfl (by decide) rfl dX4_woundBySet_40 ?_
        refine sw_iload_n X 3 rfl rfl dX4_woundBySet_41 ?_
        refine sw_iconst X (v := 1) (by decide) dX4_woundBySet_42 ?_
        refine sw_iload X 4 rfl dX4_woundBySet_43 ?_
        refine sw_ishl X dX4_woundBySet_45 ?_
        refine sw_ior X dX4_woundBySet_46 ?_
        refine sw_topi (fun x17 ex17 => ?_)
        have h := nm_E h ex17
        refine sw_istore_n X [(3, .int x17), (2, .int r16), (0, .ref (g.1 t)), (1, .int a1), (4, .int x5)] rfl (by decide) rfl dX4_woundBySet_47 ?_
        refine sw_sub [2, 3, 1, 0, 4] rfl ?_
        exact J12 _ _ h
theorem dX0_search_0 : decode cX0_search 0 = .ok (.aload_n 0, 1) := by decide +kernel
theorem dX0_search_1 : decode cX0_search 1 = .ok (.iconst 0, 1) := by decide +kernel
theorem dX0_search_2 : decode cX0_search 2 = .ok (.putfield 9, 3) := by decide +kernel
theorem dX0_search_5 : decode cX0_search 5 = .ok (.aload_n 0, 1) := by decide +kernel
theorem dX0_search_6 : decode cX0_search 6 = .ok (.bipush (-9), 2) := by decide +kernel
theorem dX0_search_8 : decode cX0_search 8 = .ok (.putfield 15, 3) := by decide +kernel
theorem dX0_search_11 : decode cX0_search 11 = .ok (.aload_n 0, 1) := by decide +kernel
theorem dX0_search_12 : decode cX0_search 12 = .ok (.aload_n 0, 1) := by decide +kernel
theorem dX0_search_13 : decode cX0_search 13 = .ok (.getfield 34, 3) := by decide +kernel
theorem dX0_search_16 : decode cX0_search 16 = .ok (.invokevirtual 38, 3) := by decide +kernel
theorem dX0_search_19 : decode cX0_search 19 = .ok (.putfield 18, 3) := by decide +kernel
theorem dX0_search_22 : decode cX0_search 22 = .ok (.aload_n 0, 1) := by decide +kernel
theorem dX0_search_23 : decode cX0_search 23 = .ok (.iconst 0, 1) := by decide +kernel
theorem dX0_search_24 : decode cX0_search 24 = .ok (.putfield 21, 3) := by decide +kernel
theorem dX0_search_27 : decode cX0_search 27 = .ok (.aload_n 0, 1) := by decide +kernel
theorem dX0_search_28 : decode cX0_search 28 = .ok (.bipush 6, 2) := by decide +kernel
theorem dX0_search_30 : decode cX0_search 30 = .ok (.putfield 24, 3) := by decide +kernel
theorem dX0_search_33 : decode cX0_search 33 = .ok (.aload_n 0, 1) := by decide +kernel
theorem dX0_search_34 : decode cX0_search 34 = .ok (.iconst 0, 1) := by decide +kernel
theorem dX0_search_35 : decode cX0_search 35 = .ok (.putfield 27, 3) := by decide +kernel
theorem dX0_search_38 : decode cX0_search 38 = .ok (.aload_n 0, 1) := by decide +kernel
theorem dX0_search_39 : decode cX0_search 39 = .ok (.getfield 30, 3) := by decide +kernel
theorem dX0_search_42 : decode cX0_search 42 = .ok (.iconst 0, 1) := by decide +kernel
theorem dX0_search_43 : decode cX0_search 43 = .ok (.invokestatic 44, 3) := by decide +kernel
theorem dX0_search_46 : decode cX0_search 46 = .ok (.iconst 0, 1) := by decide +kernel
theorem dX0_search_47 : decode cX0_search 47 = .ok (.istore_n 2, 1) := by decide +kernel
theorem dX0_search_48 : decode cX0_search 48 = .ok (.iload_n 2, 1) := by decide +kernel
theorem dX0_search_49 : decode cX0_search 49 = .ok (.aload_n 0, 1) := by decide +kernel
theorem dX0_search_50 : decode cX0_search 50 = .ok (.getfield 34, 3) := by decide +kernel
theorem dX0_search_53 : decode cX0_search 53 = .ok (.invokevirtual 50, 3) := by decide +kernel
theorem dX0_search_56 : decode cX0_search 56 = .ok (.if_icmp .ge 45, 3) := by decide +kernel
theorem dX0_search_59 : decode cX0_search 59 = .ok (.iload_n 2, 1) := by decide +kernel
theorem dX0_search_60 : decode cX0_search 60 = .ok (.aload_n 0, 1) := by decide +kernel
theorem dX0_search_61 : decode cX0_search 61 = .ok (.getfield 34, 3) := by decide +kernel
theorem dX0_search_64 : decode cX0_search 64 = .ok (.getfield 52, 3) := by decide +kernel
theorem dX0_search_67 : decode cX0_search 67 = .ok (.iand, 1) := by decide +kernel
theorem dX0_search_68 : decode cX0_search 68 = .ok (.ifCond .ne 27, 3) := by decide +kernel
theorem dX0_search_71 : decode cX0_search 71 = .ok (.aload_n 0, 1) := by decide +kernel
theorem dX0_search_72 : decode cX0_search 72 = .ok (.getfield 34, 3) := by decide +kernel
theorem dX0_search_75 : decode cX0_search 75 = .ok (.aload_n 0, 1) := by decide +kernel
theorem dX0_search_76 : decode cX0_search 76 = .ok (.getfield 34, 3) := by decide +kernel
theorem dX0_search_79 : decode cX0_search 79 = .ok (.iload_n 2, 1) := by decide +kernel
theorem dX0_search_80 : decode cX0_search 80 = .ok (.invokevirtual 55, 3) := by decide +kernel
theorem dX0_search_83 : decode cX0_search 83 = .ok (.invokevirtual 59, 3) := by decide +kernel
theorem dX0_search_86 : decode cX0_search 86 = .ok (.iload_n 1, 1) := by decide +kernel
theorem dX0_search_87 : decode cX0_search 87 = .ok (.if_icmp .ne 8, 3) := by decide +kernel
theorem dX0_search_90 : decode cX0_search 90 = .ok (.aload_n 0, 1) := by decide +kernel
theorem dX0_search_91 : decode cX0_search 91 = .ok (.iload_n 2, 1) := by decide +kernel
theorem dX0_search_92 : decode cX0_search 92 = .ok (.invokevirtual 62, 3) := by decide +kernel
theorem dX0_search_95 : decode cX0_search 95 = .ok (.iinc 2 1, 3) := by decide +kernel
theorem dX0_search_98 : decode cX0_search 98 = .ok (.goto (-50), 3) := by decide +kernel
theorem dX0_search_101 : decode cX0_search 101 = .ok (.return_, 1) := by decide +kernel
def j_X0_search (F : Nat) (a1 : Int32) (st : sw_St) : Option (Unit × sw_St) :=
nm (sw_setC st 60 1 0) (fun (s1 : sw_St) =>
nm (sw_setC s1 60 2 (-9)) (fun (s2 : sw_St) =>
bo (j_X4_notIn F 15 s2) (fun (r4 : Int32) =>
nm (sw_setC s2 60 3 r4) (fun (s5 : sw_St) =>
nm (sw_setC s5 60 4 0) (fun (s6 : sw_St) =>
nm (sw_setC s6 60 5 6) (fun (s7 : sw_St) =>
nm (sw_setC s7 60 6 0) (fun (s8 : sw_St) =>
bd (j_J7_fill_53178 F 61 0 s8) (fun (_ : Unit) (s10 : sw_St) =>
lz2 (fun f13 (x11 : Int32) (s12 : sw_St) =>
 bo (j_X4_sets F 15 s12) (fun (r16 : Int32) =>
 (if r16 ≤ x11 then (
  some ((), s12))
 else (
  jn (fun (s18 : sw_St) => 
    nm (x11 + 1) (fun (x21 : Int32) =>
    f13 x21 s18)) (fun k19 =>
   (if (x11 &&& (s12.1 15 11)) = 0 then (
    bo (j_X4_woundBySet F 15 x11 s12) (fun (r24 : Int32) =>
    bo (j_X4_strikesNext F 15 r24 s12) (fun (r26 : Int32) =>
    (if r26 = a1 then (
     bd (j_X0_tally F x11 s12) (fun (_ : Unit) (s29 : sw_St) =>
     k19 s29))
    else (
     k19 s12)))))
   else (
    k19 s12))))))) F 0 s10))))))))
set_option maxHeartbeats 4000000 in
set_option maxRecDepth 100000 in
theorem c_X0_search (F : Nat) (a1 : Int32) (st : sw_St) {st1 : sw_St} (h : j_X0_search F a1 st = some ((), st1)) : sw_CV yX0_search (.code yX0_search cX0_search 3 none) 6 (fun g => [.ref (g.1 60), .int a1]) st  st1 := by
  refine sw_entV RX0 (fun g => [(0, .ref (g.1 60)), (1, .int a1)]) (by decide) rfl (fun _ => Nat.le_of_ble_eq_true rfl) (fun _ => rfl) ?_
  intro p l e s m args below meth c g X hr hlk
  unfold j_X0_search at h
  refine sw_aload_n X 0 rfl rfl dX0_search_0 ?_
  refine sw_iconst X (v := 0) (by decide) dX0_search_1 ?_
  refine sw_putI X sw_cl0 (show sw_kd 60 = 0 from rfl) (k := 1) rfl (by decide) rfl rfl wf_X0_9 dX0_search_2 (fun s1 es1 => ?_)
  have h := nm_E h es1
  refine sw_aload_n X 0 rfl rfl dX0_search_5 ?_
  refine sw_bipush X (v := (-9)) (by decide) dX0_search_6 ?_
  refine sw_putI X sw_cl0 (show sw_kd 60 = 0 from rfl) (k := 2) rfl (by decide) rfl rfl wf_X0_15 dX0_search_8 (fun s2 es2 => ?_)
  have h := nm_E h es2
  refine sw_aload_n X 0 rfl rfl dX0_search_11 ?_
  refine sw_aload_n X 0 rfl rfl dX0_search_12 ?_
  refine sw_getR X sw_cl0 (show sw_kd 60 = 0 from rfl) (k := 0) rfl (by decide) (o1 := 15) rfl wf_X0_34 dX0_search_13 ?_
  obtain ⟨r4, c3, h⟩ := bo_E h
  refine sw_callVI X (o := 15) (As := (fun g => [])) sw_cl4 (show sw_kd 15 = 4 from rfl) ws_X4_notIn (by omega) (c_X4_notIn F (show sw_kd 15 = 4 from rfl) s2 c3) rfl rfl (Nat.le_of_ble_eq_true rfl) wm_X0_38 dX0_search_16 ?_
  refine sw_putI X sw_cl0 (show sw_kd 60 = 0 from rfl) (k := 3) rfl (by decide) rfl rfl wf_X0_18 dX0_search_19 (fun s5 es5 => ?_)
  have h := nm_E h es5
  refine sw_aload_n X 0 rfl rfl dX0_search_22 ?_
  refine sw_iconst X (v := 0) (by decide) dX0_search_23 ?_
  refine sw_putI X sw_cl0 (show sw_kd 60 = 0 from rfl) (k := 4) rfl (by decide) rfl rfl wf_X0_21 dX0_search_24 (fun s6 es6 => ?_)
  have h := nm_E h es6
  refine sw_aload_n X 0 rfl rfl dX0_search_27 ?_
  refine sw_bipush X (v := 6) (by decide) dX0_search_28 ?_
  refine sw_putI X sw_cl0 (show sw_kd 60 = 0 from rfl) (k := 5) rfl (by decide) rfl rfl wf_X0_24 dX0_search_30 (fun s7 es7 => ?_)
  have h := nm_E h es7
  refine sw_aload_n X 0 rfl rfl dX0_search_33 ?_
  refine sw_iconst X (v := 0) (by decide) dX0_search_34 ?_
  refine sw_putI X sw_cl0 (show sw_kd 60 = 0 from rfl) (k := 6) rfl (by decide) rfl rfl wf_X0_27 dX0_search_35 (fun s8 es8 => ?_)
  have h := nm_E h es8
  refine sw_aload_n X 0 rfl rfl dX0_search_38 ?_
  refine sw_getR X sw_cl0 (show sw_kd 60 = 0 from rfl) (k := 7) rfl (by decide) (o1 := 61) rfl wf_X0_30 dX0_search_39 ?_
  refine sw_iconst X (v := 0) (by decide) dX0_search_42 ?_
  obtain ⟨u31, s10, c9, h⟩ := bd_E h
  refine sw_callSV X (As := (fun g => [.ref (g.1 61), .int 0])) ws_J7_fill_53178 (by omega) (c_J7_fill_53178 F (show sw_kd 61 = 8 from rfl) 0 s8 c9) rfl rfl (Nat.le_of_ble_eq_true rfl) wm_X0_44 dX0_search_43 ?_
  refine sw_iconst X (v := 0) (by decide) dX0_search_46 ?_
  refine sw_istore_n X [(2, .int 0), (0, .ref (g.1 60)), (1, .int a1)] rfl (by decide) rfl dX0_search_47 ?_
  refine sw_sub [1, 2, 0] rfl ?_
  refine lz2_E (fun (x11 : Int32) (s12 : sw_St) => sw_V p l e 6 s m args below meth c g (sw_A g s.heap.size) (sw_QV below g args s  st1) 3 48 [(0, .ref (g.1 60)), (1, .int a1), (2, .int x11)] [] s12) h (fun f13 ih14 x11 s12 h => ?_)
  refine sw_iload_n X 2 rfl rfl dX0_search_48 ?_
  refine sw_aload_n X 0 rfl rfl dX0_search_49 ?_
  refine sw_getR X sw_cl0 (show sw_kd 60 = 0 from rfl) (k := 0) rfl (by decide) (o1 := 15) rfl wf_X0_34 dX0_search_50 ?_
  obtain ⟨r16, c15, h⟩ := bo_E h
  refine sw_callVI X (o := 15) (As := (fun g => [])) sw_cl4 (show sw_kd 15 = 4 from rfl) ws_X4_sets (by omega) (c_X4_sets F (show sw_kd 15 = 4 from rfl) s12 c15) rfl rfl (Nat.le_of_ble_eq_true rfl) wm_X0_50 dX0_search_53 ?_
  refine sw_icmp_ge X 101 (by decide) dX0_search_56 (fun q17 => ?_) (fun q17 => ?_)
  · have h := ite_T h q17
    exact sw_vret X hr hlk dX0_search_101 h
  · have h := ite_F h q17
    refine sw_iload_n X 2 rfl rfl dX0_search_59 ?_
    refine sw_aload_n X 0 rfl rfl dX0_search_60 ?_
    refine sw_getR X sw_cl0 (show sw_kd 60 = 0 from rfl) (k := 0) rfl (by decide) (o1 := 15) rfl wf_X0_34 dX0_search_61 ?_
    refine sw_getI X sw_cl4 (show sw_kd 15 = 4 from rfl) (k := 11) rfl (by decide) wf_X0_52 dX0_search_64 ?_
    refine sw_iand X dX0_search_67 ?_
    refine jn1_E (fun (s18 : sw_St) => sw_V p l e 6 s m args below meth c g (sw_A g s.heap.size) (sw_QV below g args s  st1) 3 95 [(0, .ref (g.1 60)), (1, .int a1), (2, .int x11)] [] s18) h (fun s18 h => ?_) (fun k19 J20 h => ?_)
    · obtain ⟨x21, ex21⟩ : ∃ y : Int32, y = x11 + 1 := ⟨_, rfl⟩
      have h := nm_E h ex21
      refine sw_iinc X 2 x21 [(2, .int x21), (0, .ref (g.1 60)), (1, .int a1)] rfl (by rw [ex21]; rfl) (by decide) rfl dX0_search_95 ?_
      refine sw_goto X 48 (by decide) dX0_search_98 ?_
      refine sw_sub [1, 2, 0] rfl ?_
      exact ih14 _ _ h
    · refine sw_if_ne X 95 (by decide) dX0_search_68 (fun q22 => ?_) (fun q22 => ?_)
      · have h := ite_F h q22
        exact J20 _ h
      · have h := ite_T h q22
        refine sw_aload_n X 0 rfl rfl dX0_search_71 ?_
        refine sw_getR X sw_cl0 (show sw_kd 60 = 0 from rfl) (k := 0) rfl (by decide) (o1 := 15) rfl wf_X0_34 dX0_search_72 ?_
        refine sw_aload_n X 0 rfl rfl dX0_search_75 ?_
        refine sw_getR X sw_cl0 (show sw_kd 60 = 0 from rfl) (k := 0) rfl (by decide) (o1 := 15) rfl wf_X0_34 dX0_search_76 ?_
        refine sw_iload_n X 2 rfl rfl dX0_search_79 ?_
        obtain ⟨r24, c23, h⟩ := bo_E h
        refine sw_callVI X (o := 15) (As := (fun g => [.int x11])) sw_cl4 (show sw_kd 15 = 4 from rfl) ws_X4_woundBySet (by omega) (c_X4_woundBySet F (show sw_kd 15 = 4 from rfl) x11 s12 c23) rfl rfl (Nat.le_of_ble_eq_true rfl) wm_X0_55 dX0_search_80 ?_
        obtain ⟨r26, c25, h⟩ := bo_E h
        refine sw_callVI X (o := 15) (As := (fun g => [.int r24])) sw_cl4 (show sw_kd 15 = 4 from rfl) ws_X4_strikesNext (by omega) (c_X4_strikesNext F (show sw_kd 15 = 4 from rfl) r24 s12 c25) rfl rfl (Nat.le_of_ble_eq_true rfl) wm_X0_59 dX0_search_83 ?_
        refine sw_iload_n X 1 rfl rfl dX0_search_86 ?_
        refine sw_icmp_ne X 95 (by decide) dX0_search_87 (fun q27 => ?_) (fun q27 => ?_)
        · have h := ite_F h q27
          exact J20 _ h
        · have h := ite_T h q27
          refine sw_aload_n X 0 rfl rfl dX0_search_90 ?_
          refine sw_iload_n X 2 rfl rfl dX0_search_91 ?_
          obtain ⟨u30, s29, c28, h⟩ := bd_E h
          refine sw_callVV X (o := 60) (As := (fun g => [.int x11])) sw_cl0 (show sw_kd 60 = 0 from rfl) ws_X0_tally (by omega) (c_X0_tally F x11 s12 c28) rfl rfl (Nat.le_of_ble_eq_true rfl) wm_X0_62 dX0_search_92 ?_
          exact J20 _ h
theorem dX4_clockAfter_0 : decode cX4_clockAfter 0 = .ok (.aload_n 0, 1) := by decide +kernel
theorem dX4_clockAfter_1 : decode cX4_clockAfter 1 = .ok (.getfield 40, 3) := by decide +kernel
theorem dX4_clockAfter_4 : decode cX4_clockAfter 4 = .ok (.iload_n 1, 1) := by decide +kernel
theorem dX4_clockAfter_5 : decode cX4_clockAfter 5 = .ok (.iadd, 1) := by decide +kernel
theorem dX4_clockAfter_6 : decode cX4_clockAfter 6 = .ok (.bipush 12, 2) := by decide +kernel
theorem dX4_clockAfter_8 : decode cX4_clockAfter 8 = .ok (.irem, 1) := by decide +kernel
theorem dX4_clockAfter_9 : decode cX4_clockAfter 9 = .ok (.ireturn, 1) := by decide +kernel
def j_X4_clockAfter (F : Nat) (t : Nat) (a1 : Int32) (st : sw_St) : Option Int32 :=
some (((st.1 t 9) + a1) - ((st.1 t 9) + a1) / 12 * 12)
set_option maxHeartbeats 4000000 in
set_option maxRecDepth 100000 in
theorem c_X4_clockAfter (F : Nat) {t : Nat} (ht : sw_kd t = 4) (a1 : Int32) (st : sw_St) {r : Int32} (h : j_X4_clockAfter F t a1 st = some r) : sw_CI yX4_clockAfter (.code yX4_clockAfter cX4_clockAfter 2 (some .int)) 1 (fun g => [.ref (g.1 t), .int a1]) st r st := by
  refine sw_entI RX4 (fun g => [(0, .ref (g.1 t)), (1, .int a1)]) (by decide) rfl (fun _ => Nat.le_of_ble_eq_true rfl) (fun _ => rfl) ?_
  intro p l e s m args below meth c g X hr hlk
  unfold j_X4_clockAfter at h
  refine sw_aload_n X 0 rfl rfl dX4_clockAfter_0 ?_
  refine sw_getI X sw_cl4 (show sw_kd t = 4 from ht) (k := 9) rfl (by decide) wf_X4_40 dX4_clockAfter_1 ?_
  refine sw_iload_n X 1 rfl rfl dX4_clockAfter_4 ?_
  refine sw_iadd X dX4_clockAfter_5 ?_
  refine sw_bipush X (v := 12) (by decide) dX4_clockAfter_6 ?_
  refine sw_irem X (by decide) dX4_clockAfter_8 ?_
  exact sw_iret X hr hlk dX4_clockAfter_9 (by cases h; rfl)
end
section
theorem dX1_weigh_0 : decode cX1_weigh 0 = .ok (.iload_n 1, 1) := by decide +kernel
theorem dX1_weigh_1 : decode cX1_weigh 1 = .ok (.invokestatic 71, 3) := by decide +kernel
theorem dX1_weigh_4 : decode cX1_weigh 4 = .ok (.aload_n 0, 1) := by decide +kernel
theorem dX1_weigh_5 : decode cX1_weigh 5 = .ok (.getfield 37, 3) := by decide +kernel
theorem dX1_weigh_8 : decode cX1_weigh 8 = .ok (.getfield 46, 3) := by decide +kernel
theorem dX1_weigh_11 : decode cX1_weigh 11 = .ok (.invokestatic 71, 3) := by decide +kernel
theorem dX1_weigh_14 : decode cX1_weigh 14 = .ok (.isub, 1) := by decide +kernel
theorem dX1_weigh_15 : decode cX1_weigh 15 = .ok (.istore 4, 2) := by decide +kernel
theorem dX1_weigh_17 : decode cX1_weigh 17 = .ok (.iload_n 3, 1) := by decide +kernel
theorem dX1_weigh_18 : decode cX1_weigh 18 = .ok (.aload_n 0, 1) := by decide +kernel
theorem dX1_weigh_19 : decode cX1_weigh 19 = .ok (.getfield 31, 3) := by decide +kernel
theorem dX1_weigh_22 : decode cX1_weigh 22 = .ok (.if_icmp .gt 20, 3) := by decide +kernel
theorem dX1_weigh_25 : decode cX1_weigh 25 = .ok (.iload_n 3, 1) := by decide +kernel
theorem dX1_weigh_26 : decode cX1_weigh 26 = .ok (.aload_n 0, 1) := by decide +kernel
theorem dX1_weigh_27 : decode cX1_weigh 27 = .ok (.getfield 31, 3) := by decide +kernel
theorem dX1_weigh_30 : decode cX1_weigh 30 = .ok (.if_icmp .ne 23, 3) := by decide +kernel
theorem dX1_weigh_33 : decode cX1_weigh 33 = .ok (.iload 4, 2) := by decide +kernel
theorem dX1_weigh_35 : decode cX1_weigh 35 = .ok (.aload_n 0, 1) := by decide +kernel
theorem dX1_weigh_36 : decode cX1_weigh 36 = .ok (.getfield 34, 3) := by decide +kernel
theorem dX1_weigh_39 : decode cX1_weigh 39 = .ok (.if_icmp .ge 14, 3) := by decide +kernel
theorem dX1_weigh_42 : decode cX1_weigh 42 = .ok (.aload_n 0, 1) := by decide +kernel
theorem dX1_weigh_43 : decode cX1_weigh 43 = .ok (.iload_n 3, 1) := by decide +kernel
theorem dX1_weigh_44 : decode cX1_weigh 44 = .ok (.putfield 31, 3) := by decide +kernel
theorem dX1_weigh_47 : decode cX1_weigh 47 = .ok (.aload_n 0, 1) := by decide +kernel
theorem dX1_weigh_48 : decode cX1_weigh 48 = .ok (.iload 4, 2) := by decide +kernel
theorem dX1_weigh_50 : decode cX1_weigh 50 = .ok (.putfield 34, 3) := by decide +kernel
theorem dX1_weigh_53 : decode cX1_weigh 53 = .ok (.aload_n 0, 1) := by decide +kernel
theorem dX1_weigh_54 : decode cX1_weigh 54 = .ok (.getfield 37, 3) := by decide +kernel
theorem dX1_weigh_57 : decode cX1_weigh 57 = .ok (.iload_n 3, 1) := by decide +kernel
theorem dX1_weigh_58 : decode cX1_weigh 58 = .ok (.invokevirtual 76, 3) := by decide +kernel
theorem dX1_weigh_61 : decode cX1_weigh 61 = .ok (.aload_n 0, 1) := by decide +kernel
theorem dX1_weigh_62 : decode cX1_weigh 62 = .ok (.getfield 15, 3) := by decide +kernel
theorem dX1_weigh_65 : decode cX1_weigh 65 = .ok (.if_icmp .eq 4, 3) := by decide +kernel
theorem dX1_weigh_68 : decode cX1_weigh 68 = .ok (.return_, 1) := by decide +kernel
theorem dX1_weigh_69 : decode cX1_weigh 69 = .ok (.aload_n 0, 1) := by decide +kernel
theorem dX1_weigh_70 : decode cX1_weigh 70 = .ok (.dup, 1) := by decide +kernel
theorem dX1_weigh_71 : decode cX1_weigh 71 = .ok (.getfield 25, 3) := by decide +kernel
theorem dX1_weigh_74 : decode cX1_weigh 74 = .ok (.iconst 1, 1) := by decide +kernel
theorem dX1_weigh_75 : decode cX1_weigh 75 = .ok (.iadd, 1) := by decide +kernel
theorem dX1_weigh_76 : decode cX1_weigh 76 = .ok (.putfield 25, 3) := by decide +kernel
theorem dX1_weigh_79 : decode cX1_weigh 79 = .ok (.aload_n 0, 1) := by decide +kernel
theorem dX1_weigh_80 : decode cX1_weigh 80 = .ok (.getfield 28, 3) := by decide +kernel
theorem dX1_weigh_83 : decode cX1_weigh 83 = .ok (.bipush (-9), 2) := by decide +kernel
theorem dX1_weigh_85 : decode cX1_weigh 85 = .ok (.if_icmp .eq 11, 3) := by decide +kernel
theorem dX1_weigh_88 : decode cX1_weigh 88 = .ok (.iload_n 2, 1) := by decide +kernel
theorem dX1_weigh_89 : decode cX1_weigh 89 = .ok (.aload_n 0, 1) := by decide +kernel
theorem dX1_weigh_90 : decode cX1_weigh 90 = .ok (.getfield 28, 3) := by decide +kernel
theorem dX1_weigh_93 : decode cX1_weigh 93 = .ok (.if_icmp .ge 25, 3) := by decide +kernel
theorem dX1_weigh_96 : decode cX1_weigh 96 = .ok (.aload_n 0, 1) := by decide +kernel
theorem dX1_weigh_97 : decode cX1_weigh 97 = .ok (.iload_n 2, 1) := by decide +kernel
theorem dX1_weigh_98 : decode cX1_weigh 98 = .ok (.putfield 28, 3) := by decide +kernel
theorem dX1_weigh_101 : decode cX1_weigh 101 = .ok (.aload_n 0, 1) := by decide +kernel
theorem dX1_weigh_102 : decode cX1_weigh 102 = .ok (.getfield 18, 3) := by decide +kernel
theorem dX1_weigh_105 : decode cX1_weigh 105 = .ok (.iconst 0, 1) := by decide +kernel
theorem dX1_weigh_106 : decode cX1_weigh 106 = .ok (.aload_n 0, 1) := by decide +kernel
theorem dX1_weigh_107 : decode cX1_weigh 107 = .ok (.getfield 22, 3) := by decide +kernel
theorem dX1_weigh_110 : decode cX1_weigh 110 = .ok (.iconst 0, 1) := by decide +kernel
theorem dX1_weigh_111 : decode cX1_weigh 111 = .ok (.aload_n 0, 1) := by decide +kernel
theorem dX1_weigh_112 : decode cX1_weigh 112 = .ok (.getfield 9, 3) := by decide +kernel
theorem dX1_weigh_115 : decode cX1_weigh 115 = .ok (.invokestatic 79, 3) := by decide +kernel
theorem dX1_weigh_118 : decode cX1_weigh 118 = .ok (.return_, 1) := by decide +kernel
def j_X1_weigh (F : Nat) (a1 : Int32) (a2 : Int32) (a3 : Int32) (st : sw_St) : Option (Unit × sw_St) :=
bo (j_J6_bitCount_0f7a4 F a1 st) (fun (r2 : Int32) =>
bo (j_J6_bitCount_0f7a4 F (st.1 15 11) st) (fun (r4 : Int32) =>
nm (r2 - r4) (fun (x5 : Int32) =>
jn (fun (s6 : sw_St) => 
  bo (j_X4_clockAfter F 15 a3 s6) (fun (r10 : Int32) =>
  (if r10 = (s6.1 54 2) then (
   nm (sw_setC s6 54 5 ((s6.1 54 5) + 1)) (fun (s12 : sw_St) =>
   jn (fun (s13 : sw_St) => 
     some ((), s13)) (fun k14 =>
    jn (
      nm (sw_setC s12 54 6 a2) (fun (s18 : sw_St) =>
      grd ((¬ 0 < (0 : Int32)) ∧ (¬ 0 < (0 : Int32)) ∧ (¬ (s18.1 54 1) < (0 : Int32)) ∧ (0 : Int32).toNatClampNeg + ((s18.1 54 1) : Int32).toNatClampNeg ≤ 5 ∧ (0 : Int32).toNatClampNeg + ((s18.1 54 1) : Int32).toNatClampNeg ≤ 5) (
      nm (sw_setA s18 56 (va_cpy (s18.1 55) (s18.1 56) (0 : Int32).toNatClampNeg (0 : Int32).toNatClampNeg ((s18.1 54 1) : Int32).toNatClampNeg)) (fun (s19 : sw_St) =>
      k14 s19)))) (fun k16 =>
     (if (s12.1 54 6) = (-9) then (
      k16)
     else (
      (if (s12.1 54 6) ≤ a2 then (
       k14 s12)
      else (
       k16))))))))
  else (
   some ((), s6))))) (fun k7 =>
 jn (
   nm (sw_setC st 54 7 a3) (fun (s25 : sw_St) =>
   nm (sw_setC s25 54 8 x5) (fun (s26 : sw_St) =>
   k7 s26))) (fun k23 =>
  (if (st.1 54 7) < a3 then (
   k23)
  else (
   (if a3 = (st.1 54 7) then (
    (if (st.1 54 8) ≤ x5 then (
     k7 st)
    else (
     k23)))
   else (
    k7 st)))))))))
set_option maxHeartbeats 4000000 in
set_option maxRecDepth 100000 in
theorem c_X1_weigh (F : Nat) (a1 : Int32) (a2 : Int32) (a3 : Int32) (st : sw_St) {st1 : sw_St} (h : j_X1_weigh F a1 a2 a3 st = some ((), st1)) : sw_CV yX1_weigh (.code yX1_weigh cX1_weigh 5 none) 2 (fun g => [.ref (g.1 54), .int a1, .int a2, .int a3]) st  st1 := by
  refine sw_entV RX1 (fun g => [(0, .ref (g.1 54)), (1, .int a1), (2, .int a2), (3, .int a3)]) (by decide) rfl (fun _ => Nat.le_of_ble_eq_true rfl) (fun _ => rfl) ?_
  intro p l e s m args below meth c g X hr hlk
  unfold j_X1_weigh at h
  refine sw_iload_n X 1 rfl rfl dX1_weigh_0 ?_
  obtain ⟨r2, c1, h⟩ := bo_E h
  refine sw_callSI X (As := (fun g => [.int a1])) ws_J6_bitCount_0f7a4 (by omega) (c_J6_bitCount_0f7a4 F a1 st c1) rfl rfl (Nat.le_of_ble_eq_true rfl) wm_X1_71 dX1_weigh_1 ?_
  refine sw_aload_n X 0 rfl rfl dX1_weigh_4 ?_
  refine sw_getR X sw_cl1 (show sw_kd 54 = 1 from rfl) (k := 0) rfl (by decide) (o1 := 15) rfl wf_X1_37 dX1_weigh_5 ?_
  refine sw_getI X sw_cl4 (show sw_kd 15 = 4 from rfl) (k := 11) rfl (by decide) wf_X1_46 dX1_weigh_8 ?_
  obtain ⟨r4, c3, h⟩ := bo_E h
  refine sw_callSI X (As := (fun g => [.int (st.1 15 11)])) ws_J6_bitCount_0f7a4 (by omega) (c_J6_bitCount_0f7a4 F (st.1 15 11) st c3) rfl rfl (Nat.le_of_ble_eq_true rfl) wm_X1_71 dX1_weigh_11 ?_
  refine sw_isub X dX1_weigh_14 ?_
  refine sw_topi (fun x5 ex5 => ?_)
  have h := nm_E h ex5
  refine sw_istore X [(4, .int x5), (0, .ref (g.1 54)), (1, .int a1), (2, .int a2), (3, .int a3)] (by decide) rfl dX1_weigh_15 ?_
  refine sw_iload_n X 4 rfl rfl dX1_weigh_17 ?_
  refine sw_aload_n X 1 rfl rfl dX1_weigh_18 ?_
  refine sw_getI X sw_cl1 (show sw_kd 54 = 1 from rfl) (k := 7) rfl (by decide) wf_X1_31 dX1_weigh_19 ?_
  refine jn1_E (fun (s6 : sw_St) => sw_V p l e 2 s m args below meth c g (sw_A g s.heap.size) (sw_QV below g args s  st1) 5 53 [(0, .ref (g.1 54)), (2, .int a2), (3, .int a3)] [] s6) h (fun s6 h => ?_) (fun k7 J8 h => ?_)
  · refine sw_aload_n X 0 rfl rfl dX1_weigh_53 ?_
    refine sw_getR X sw_cl1 (show sw_kd 54 = 1 from rfl) (k := 0) rfl (by decide) (o1 := 15) rfl wf_X1_37 dX1_weigh_54 ?_
    refine sw_iload_n X 2 rfl rfl dX1_weigh_57 ?_
    obtain ⟨r10, c9, h⟩ := bo_E h
    refine sw_callVI X (o := 15) (As := (fun g => [.int a3])) sw_cl4 (show sw_kd 15 = 4 from rfl) ws_X4_clockAfter (by omega) (c_X4_clockAfter F (show sw_kd 15 = 4 from rfl) a3 s6 c9) rfl rfl (Nat.le_of_ble_eq_true rfl) wm_X1_76 dX1_weigh_58 ?_
    refine sw_aload_n X 0 rfl rfl dX1_weigh_61 ?_
    refine sw_getI X sw_cl1 (show sw_kd 54 = 1 from rfl) (k := 2) rfl (by decide) wf_X1_15 dX1_weigh_62 ?_
    refine sw_icmp_eq X 69 (by decide) dX1_weigh_65 (fun q11 => ?_) (fun q11 => ?_)
    · have h := ite_T h q11
      refine sw_aload_n X 0 rfl rfl dX1_weigh_69 ?_
      refine sw_dup X rfl dX1_weigh_70 ?_
      refine sw_getI X sw_cl1 (show sw_kd 54 = 1 from rfl) (k := 5) rfl (by decide) wf_X1_25 dX1_weigh_71 ?_
      refine sw_iconst X (v := 1) (by decide) dX1_weigh_74 ?_
      refine sw_iadd X dX1_weigh_75 ?_
      refine sw_putI X sw_cl1 (show sw_kd 54 = 1 from rfl) (k := 5) rfl (by decide) rfl rfl wf_X1_25 dX1_weigh_76 (fun s12 es12 => ?_)
      have h := nm_E h es12
      refine sw_aload_n X 0 rfl rfl dX1_weigh_79 ?_
      refine sw_getI X sw_cl1 (show sw_kd 54 = 1 from rfl) (k := 6) rfl (by decide) wf_X1_28 dX1_weigh_80 ?_
      refine sw_bipush X (v := (-9)) (by decide) dX1_weigh_83 ?_
      refine jn1_E (fun (s13 : sw_St) => sw_V p l e 2 s m args below meth c g (sw_A g s.heap.size) (sw_QV below g args s  st1) 5 118 [] [] s13) h (fun s13 h => ?_) (fun k14 J15 h => ?_)
      · exact sw_vret X hr hlk dX1_weigh_118 h
      · refine jn0_E (sw_V p l e 2 s m args below meth c g (sw_A g s.heap.size) (sw_QV below g args s  st1) 5 96 [(0, .ref (g.1 54)), (2, .int a2)] [] s12) h (fun h => ?_) (fun k16 J17 h => ?_)
        · refine sw_aload_n X 0 rfl rfl dX1_weigh_96 ?_
          refine sw_iload_n X 1 rfl rfl dX1_weigh_97 ?_
          refine sw_putI X sw_cl1 (show sw_kd 54 = 1 from rfl) (k := 6) rfl (by decide) rfl rfl wf_X1_28 dX1_weigh_98 (fun s18 es18 => ?_)
          have h := nm_E h es18
          refine sw_aload_n X 0 rfl rfl dX1_weigh_101 ?_
          refine sw_getR X sw_cl1 (show sw_kd 54 = 1 from rfl) (k := 3) rfl (by decide) (o1 := 55) rfl wf_X1_18 dX1_weigh_102 ?_
          refine sw_iconst X (v := 0) (by decide) dX1_weigh_105 ?_
          refine sw_aload_n X 0 rfl rfl dX1_weigh_106 ?_
          refine sw_getR X sw_cl1 (show sw_kd 54 = 1 from rfl) (k := 4) rfl (by decide) (o1 := 56) rfl wf_X1_22 dX1_weigh_107 ?_
          refine sw_iconst X (v := 0) (by decide) dX1_weigh_110 ?_
          refine sw_aload_n X 0 rfl rfl dX1_weigh_111 ?_
          refine sw_getI X sw_cl1 (show sw_kd 54 = 1 from rfl) (k := 1) rfl (by decide) wf_X1_9 dX1_weigh_112 ?_
          obtain ⟨q20, h⟩ := grd_E h
          refine sw_copy X (show sw_kd 55 = 8 from rfl) (n0 := 5) rfl (show sw_kd 56 = 8 from rfl) (n1 := 5) rfl q20.1 q20.2.1 q20.2.2.1 q20.2.2.2.1 q20.2.2.2.2 wm_X1_79 ws_copy.1 ws_copy.2.1 ws_copy.2.2 (by omega) (Nat.le_of_ble_eq_true rfl) dX1_weigh_115 (fun s19 es19 => ?_)
          have h := nm_E h es19
          refine sw_sub [] rfl ?_
          exact J15 _ h
        · refine sw_icmp_eq X 96 (by decide) dX1_weigh_85 (fun q21 => ?_) (fun q21 => ?_)
          · have h := ite_T h q21
            refine sw_sub [0, 1] rfl ?_
            exact J17  h
          · have h := ite_F h q21
            refine sw_iload_n X 1 rfl rfl dX1_weigh_88 ?_
            refine sw_aload_n X 0 rfl rfl dX1_weigh_89 ?_
            refine sw_getI X sw_cl1 (show sw_kd 54 = 1 from rfl) (k := 6) rfl (by decide) wf_X1_28 dX1_weigh_90 ?_
            refine sw_icmp_ge X 118 (by decide) dX1_weigh_93 (fun q22 => ?_) (fun q22 => ?_)
            · have h := ite_T h q22
              refine sw_sub [] rfl ?_
              exact J15 _ h
            · have h := ite_F h q22
              refine sw_sub [0, 1] rfl ?_
              exact J17  h
    · have h := ite_F h q11
      exact sw_vret X hr hlk dX1_weigh_68 h
  · refine jn0_E (sw_V p l e 2 s m args below meth c g (sw_A g s.heap.size) (sw_QV below g args s  st1) 5 42 [(0, .ref (g.1 54)), (2, .int a2), (3, .int a3), (4, .int x5)] [] st) h (fun h => ?_) (fun k23 J24 h => ?_)
    · refine sw_aload_n X 0 rfl rfl dX1_weigh_42 ?_
      refine sw_iload_n X 2 rfl rfl dX1_weigh_43 ?_
      refine sw_putI X sw_cl1 (show sw_kd 54 = 1 from rfl) (k := 7) rfl (by decide) rfl rfl wf_X1_31 dX1_weigh_44 (fun s25 es25 => ?_)
      have h := nm_E h es25
      refine sw_aload_n X 0 rfl rfl dX1_weigh_47 ?_
      refine sw_iload X 3 rfl dX1_weigh_48 ?_
      refine sw_putI X sw_cl1 (show sw_kd 54 = 1 from rfl) (k := 8) rfl (by decide) rfl rfl wf_X1_34 dX1_weigh_50 (fun s26 es26 => ?_)
      have h := nm_E h es26
      refine sw_sub [0, 1, 2] rfl ?_
      exact J8 _ h
    · refine sw_icmp_gt X 42 (by decide) dX1_weigh_22 (fun q27 => ?_) (fun q27 => ?_)
      · have h := ite_T h q27
        refine sw_sub [1, 3, 4, 0] rfl ?_
        exact J24  h
      · have h := ite_F h q27
        refine sw_iload_n X 4 rfl rfl dX1_weigh_25 ?_
        refine sw_aload_n X 1 rfl rfl dX1_weigh_26 ?_
        refine sw_getI X sw_cl1 (show sw_kd 54 = 1 from rfl) (k := 7) rfl (by decide) wf_X1_31 dX1_weigh_27 ?_
        refine sw_icmp_ne X 53 (by decide) dX1_weigh_30 (fun q28 => ?_) (fun q28 => ?_)
        · have h := ite_F h q28
          refine sw_sub [1, 3, 4] rfl ?_
          exact J8 _ h
        · have h := ite_T h q28
          refine sw_iload X 0 rfl dX1_weigh_33 ?_
          refine sw_aload_n X 1 rfl rfl dX1_weigh_35 ?_
          refine sw_getI X sw_cl1 (show sw_kd 54 = 1 from rfl) (k := 8) rfl (by decide) wf_X1_34 dX1_weigh_36 ?_
          refine sw_icmp_ge X 53 (by decide) dX1_weigh_39 (fun q29 => ?_) (fun q29 => ?_)
          · have h := ite_T h q29
            refine sw_sub [1, 3, 4] rfl ?_
            exact J8 _ h
          · have h := ite_F h q29
            refine sw_sub [1, 3, 4, 0] rfl ?_
            exact J24  h
theorem dX1_letIn_0 : decode cX1_letIn 0 = .ok (.iload_n 1, 1) := by decide +kernel
theorem dX1_letIn_1 : decode cX1_letIn 1 = .ok (.aload_n 0, 1) := by decide +kernel
theorem dX1_letIn_2 : decode cX1_letIn 2 = .ok (.getfield 9, 3) := by decide +kernel
theorem dX1_letIn_5 : decode cX1_letIn 5 = .ok (.if_icmp .ge 8, 3) := by decide +kernel
theorem dX1_letIn_8 : decode cX1_letIn 8 = .ok (.iload_n 1, 1) := by decide +kernel
theorem dX1_letIn_9 : decode cX1_letIn 9 = .ok (.iconst 5, 1) := by decide +kernel
theorem dX1_letIn_10 : decode cX1_letIn 10 = .ok (.if_icmp .lt 13, 3) := by decide +kernel
theorem dX1_letIn_13 : decode cX1_letIn 13 = .ok (.aload_n 0, 1) := by decide +kernel
theorem dX1_letIn_14 : decode cX1_letIn 14 = .ok (.iload_n 3, 1) := by decide +kernel
theorem dX1_letIn_15 : decode cX1_letIn 15 = .ok (.iload 4, 2) := by decide +kernel
theorem dX1_letIn_17 : decode cX1_letIn 17 = .ok (.iload 5, 2) := by decide +kernel
theorem dX1_letIn_19 : decode cX1_letIn 19 = .ok (.invokevirtual 53, 3) := by decide +kernel
theorem dX1_letIn_22 : decode cX1_letIn 22 = .ok (.return_, 1) := by decide +kernel
theorem dX1_letIn_23 : decode cX1_letIn 23 = .ok (.aload_n 0, 1) := by decide +kernel
theorem dX1_letIn_24 : decode cX1_letIn 24 = .ok (.getfield 37, 3) := by decide +kernel
theorem dX1_letIn_27 : decode cX1_letIn 27 = .ok (.astore 6, 2) := by decide +kernel
theorem dX1_letIn_29 : decode cX1_letIn 29 = .ok (.aload_n 0, 1) := by decide +kernel
theorem dX1_letIn_30 : decode cX1_letIn 30 = .ok (.getfield 18, 3) := by decide +kernel
theorem dX1_letIn_33 : decode cX1_letIn 33 = .ok (.iload_n 1, 1) := by decide +kernel
theorem dX1_letIn_34 : decode cX1_letIn 34 = .ok (.bipush (-9), 2) := by decide +kernel
theorem dX1_letIn_36 : decode cX1_letIn 36 = .ok (.iastore, 1) := by decide +kernel
theorem dX1_letIn_37 : decode cX1_letIn 37 = .ok (.aload_n 0, 1) := by decide +kernel
theorem dX1_letIn_38 : decode cX1_letIn 38 = .ok (.iload_n 1, 1) := by decide +kernel
theorem dX1_letIn_39 : decode cX1_letIn 39 = .ok (.iconst 1, 1) := by decide +kernel
theorem dX1_letIn_40 : decode cX1_letIn 40 = .ok (.iadd, 1) := by decide +kernel
theorem dX1_letIn_41 : decode cX1_letIn 41 = .ok (.aload 6, 2) := by decide +kernel
theorem dX1_letIn_43 : decode cX1_letIn 43 = .ok (.iload_n 2, 1) := by decide +kernel
theorem dX1_letIn_44 : decode cX1_letIn 44 = .ok (.invokevirtual 57, 3) := by decide +kernel
theorem dX1_letIn_47 : decode cX1_letIn 47 = .ok (.iload_n 3, 1) := by decide +kernel
theorem dX1_letIn_48 : decode cX1_letIn 48 = .ok (.iload 4, 2) := by decide +kernel
theorem dX1_letIn_50 : decode cX1_letIn 50 = .ok (.iload 5, 2) := by decide +kernel
theorem dX1_letIn_52 : decode cX1_letIn 52 = .ok (.iload_n 2, 1) := by decide +kernel
theorem dX1_letIn_53 : decode cX1_letIn 53 = .ok (.ifCond .le 7, 3) := by decide +kernel
theorem dX1_letIn_56 : decode cX1_letIn 56 = .ok (.iconst 1, 1) := by decide +kernel
theorem dX1_letIn_57 : decode cX1_letIn 57 = .ok (.goto 4, 3) := by decide +kernel
theorem dX1_letIn_60 : decode cX1_letIn 60 = .ok (.iconst 0, 1) := by decide +kernel
theorem dX1_letIn_61 : decode cX1_letIn 61 = .ok (.iadd, 1) := by decide +kernel
theorem dX1_letIn_62 : decode cX1_letIn 62 = .ok (.invokestatic 49, 3) := by decide +kernel
theorem dX1_letIn_65 : decode cX1_letIn 65 = .ok (.iconst 0, 1) := by decide +kernel
theorem dX1_letIn_66 : decode cX1_letIn 66 = .ok (.istore 7, 2) := by decide +kernel
theorem dX1_letIn_68 : decode cX1_letIn 68 = .ok (.iload 7, 2) := by decide +kernel
theorem dX1_letIn_70 : decode cX1_letIn 70 = .ok (.aload 6, 2) := by decide +kernel
theorem dX1_letIn_72 : decode cX1_letIn 72 = .ok (.getfield 61, 3) := by decide +kernel
theorem dX1_letIn_75 : decode cX1_letIn 75 = .ok (.if_icmp .ge 85, 3) := by decide +kernel
theorem dX1_letIn_78 : decode cX1_letIn 78 = .ok (.iload_n 3, 1) := by decide +kernel
theorem dX1_letIn_79 : decode cX1_letIn 79 = .ok (.iload 7, 2) := by decide +kernel
theorem dX1_letIn_81 : decode cX1_letIn 81 = .ok (.ishr, 1) := by decide +kernel
theorem dX1_letIn_82 : decode cX1_letIn 82 = .ok (.iconst 1, 1) := by decide +kernel
theorem dX1_letIn_83 : decode cX1_letIn 83 = .ok (.iand, 1) := by decide +kernel
theorem dX1_letIn_84 : decode cX1_letIn 84 = .ok (.ifCond .ne 70, 3) := by decide +kernel
theorem dX1_letIn_87 : decode cX1_letIn 87 = .ok (.aload_n 0, 1) := by decide +kernel
theorem dX1_letIn_88 : decode cX1_letIn 88 = .ok (.getfield 18, 3) := by decide +kernel
theorem dX1_letIn_91 : decode cX1_letIn 91 = .ok (.iload_n 1, 1) := by decide +kernel
theorem dX1_letIn_92 : decode cX1_letIn 92 = .ok (.iload 7, 2) := by decide +kernel
theorem dX1_letIn_94 : decode cX1_letIn 94 = .ok (.iastore, 1) := by decide +kernel
theorem dX1_letIn_95 : decode cX1_letIn 95 = .ok (.aload 6, 2) := by decide +kernel
theorem dX1_letIn_97 : decode cX1_letIn 97 = .ok (.iload 7, 2) := by decide +kernel
theorem dX1_letIn_99 : decode cX1_letIn 99 = .ok (.iload_n 2, 1) := by decide +kernel
theorem dX1_letIn_100 : decode cX1_letIn 100 = .ok (.iload_n 3, 1) := by decide +kernel
theorem dX1_letIn_101 : decode cX1_letIn 101 = .ok (.invokevirtual 64, 3) := by decide +kernel
theorem dX1_letIn_104 : decode cX1_letIn 104 = .ok (.istore 8, 2) := by decide +kernel
theorem dX1_letIn_106 : decode cX1_letIn 106 = .ok (.iload 5, 2) := by decide +kernel
theorem dX1_letIn_108 : decode cX1_letIn 108 = .ok (.iload 8, 2) := by decide +kernel
theorem dX1_letIn_110 : decode cX1_letIn 110 = .ok (.ifCond .le 7, 3) := by decide +kernel
theorem dX1_letIn_113 : decode cX1_letIn 113 = .ok (.iconst 1, 1) := by decide +kernel
theorem dX1_letIn_114 : decode cX1_letIn 114 = .ok (.goto 4, 3) := by decide +kernel
theorem dX1_letIn_117 : decode cX1_letIn 117 = .ok (.iconst 0, 1) := by decide +kernel
theorem dX1_letIn_118 : decode cX1_letIn 118 = .ok (.iadd, 1) := by decide +kernel
theorem dX1_letIn_119 : decode cX1_letIn 119 = .ok (.istore 9, 2) := by decide +kernel
theorem dX1_letIn_121 : decode cX1_letIn 121 = .ok (.aload_n 0, 1) := by decide +kernel
theorem dX1_letIn_122 : decode cX1_letIn 122 = .ok (.iload_n 1, 1) := by decide +kernel
theorem dX1_letIn_123 : decode cX1_letIn 123 = .ok (.iconst 1, 1) := by decide +kernel
theorem dX1_letIn_124 : decode cX1_letIn 124 = .ok (.iadd, 1) := by decide +kernel
theorem dX1_letIn_125 : decode cX1_letIn 125 = .ok (.aload 6, 2) := by decide +kernel
theorem dX1_letIn_127 : decode cX1_letIn 127 = .ok (.iload 8, 2) := by decide +kernel
theorem dX1_letIn_129 : decode cX1_letIn 129 = .ok (.invokevirtual 57, 3) := by decide +kernel
theorem dX1_letIn_132 : decode cX1_letIn 132 = .ok (.iload_n 3, 1) := by decide +kernel
theorem dX1_letIn_133 : decode cX1_letIn 133 = .ok (.iconst 1, 1) := by decide +kernel
theorem dX1_letIn_134 : decode cX1_letIn 134 = .ok (.iload 7, 2) := by decide +kernel
theorem dX1_letIn_136 : decode cX1_letIn 136 = .ok (.ishl, 1) := by decide +kernel
theorem dX1_letIn_137 : decode cX1_letIn 137 = .ok (.ior, 1) := by decide +kernel
theorem dX1_letIn_138 : decode cX1_letIn 138 = .ok (.iload 4, 2) := by decide +kernel
theorem dX1_letIn_140 : decode cX1_letIn 140 = .ok (.aload 6, 2) := by decide +kernel
theorem dX1_letIn_142 : decode cX1_letIn 142 = .ok (.getfield 68, 3) := by decide +kernel
theorem dX1_letIn_145 : decode cX1_letIn 145 = .ok (.iload 7, 2) := by decide +kernel
theorem dX1_letIn_147 : decode cX1_letIn 147 = .ok (.iaload, 1) := by decide +kernel
theorem dX1_letIn_148 : decode cX1_letIn 148 = .ok (.iadd, 1) := by decide +kernel
theorem dX1_letIn_149 : decode cX1_letIn 149 = .ok (.iload 9, 2) := by decide +kernel
theorem dX1_letIn_151 : decode cX1_letIn 151 = .ok (.invokestatic 49, 3) := by decide +kernel
theorem dX1_letIn_154 : decode cX1_letIn 154 = .ok (.iinc 7 1, 3) := by decide +kernel
theorem dX1_letIn_157 : decode cX1_letIn 157 = .ok (.goto (-89), 3) := by decide +kernel
theorem dX1_letIn_160 : decode cX1_letIn 160 = .ok (.return_, 1) := by decide +kernel
def j_X1_letIn (F : Nat) : Nat → Int32 → Int32 → Int32 → Int32 → Int32 → sw_St → Option (Unit × sw_St)
  | 0, _, _, _, _, _, _ => none
  | n + 1, a2, a3, a4, a5, a6, st =>
  jn (
    bd (j_X1_weigh F a4 a5 a6 st) (fun (_ : Unit) (s4 : sw_St) =>
    some ((), s4))) (fun k1 =>
   (if (st.1 54 1) ≤ a2 then (
    k1)
   else (
    (if a2 < 5 then (
     bnd a2 5 (
     nm (sw_setC st 55 (a2 : Int32).toNatClampNeg (-9)) (fun (s9 : sw_St) =>
     bo (j_X4_woundNext F 15 a3 s9) (fun (r11 : Int32) =>
     jn (fun (x12 : Int32) => 
       bd (j_X1_letIn F n (a2 + 1) r11 a4 a5 (a6 + x12) s9) (fun (_ : Unit) (s16 : sw_St) =>
       lz2 (fun f19 (x17 : Int32) (s18 : sw_St) =>
        (if (s18.1 15 0) ≤ x17 then (
         some ((), s18))
        else (
         jn (fun (s22 : sw_St) => 
           nm (x17 + 1) (fun (x25 : Int32) =>
           f19 x25 s22)) (fun k23 =>
          (if ((a4 >>> (x17 &&& 31)) &&& 1) = 0 then (
           bnd a2 5 (
           nm (sw_setC s18 55 (a2 : Int32).toNatClampNeg x17) (fun (s28 : sw_St) =>
           bo (j_X4_woundBy F 15 x17 a3 a4 s28) (fun (r30 : Int32) =>
           jn (fun (x31 : Int32) => 
             nm (a6 + x31) (fun (x34 : Int32) =>
             bo (j_X4_woundNext F 15 r30 s28) (fun (r36 : Int32) =>
             bnd x17 6 (
             bd (j_X1_letIn F n (a2 + 1) r36 (a4 ||| (1 <<< (x17 &&& 31))) (a5 + (s28.1 19 (x17 : Int32).toNatClampNeg)) x34 s28) (fun (_ : Unit) (s39 : sw_St) =>
             k23 s39))))) (fun k32 =>
            (if r30 ≤ 0 then (
             k32 0)
            else (
             k32 1)))))))
          else (
           k23 s18)))))) F 0 s16)) (fun k13 =>
      (if a3 ≤ 0 then (
       k13 0)
      else (
       k13 1)))))))
    else (
     k1)))))
set_option maxHeartbeats 4000000 in
set_option maxRecDepth 100000 in
theorem c_X1_letIn (F : Nat) : ∀ (n : Nat) (a2 : Int32) (a3 : Int32) (a4 : Int32) (a5 : Int32) (a6 : Int32) (st : sw_St) (st1 : sw_St), j_X1_letIn F n a2 a3 a4 a5 a6 st = some ((), st1) → sw_CV yX1_letIn (.code yX1_letIn cX1_letIn 10 none) (5 + n) (fun g => [.ref (g.1 54), .int a2, .int a3, .int a4, .int a5, .int a6]) st  st1 := by
  intro n
  induction n with
  | zero => intro a2 a3 a4 a5 a6 st st1 h; cases h
  | succ n ihR =>
  intro a2 a3 a4 a5 a6 st st1 h
  refine sw_entV RX1 (fun g => [(0, .ref (g.1 54)), (1, .int a2), (2, .int a3), (3, .int a4), (4, .int a5), (5, .int a6)]) (by decide) rfl (fun _ => Nat.le_of_ble_eq_true rfl) (fun _ => rfl) ?_
  intro p l e s m args below meth c g X hr hlk
  rw [j_X1_letIn] at h
  refine sw_iload_n X 1 rfl rfl dX1_letIn_0 ?_
  refine sw_aload_n X 0 rfl rfl dX1_letIn_1 ?_
  refine sw_getI X sw_cl1 (show sw_kd 54 = 1 from rfl) (k := 1) rfl (by decide) wf_X1_9 dX1_letIn_2 ?_
  refine jn0_E (sw_V p l e (5 + n + 1) s m args below meth c g (sw_A g s.heap.size) (sw_QV below g args s  st1) 10 13 [(0, .ref (g.1 54)), (3, .int a4), (4, .int a5), (5, .int a6)] [] st) h (fun h => ?_) (fun k1 J2 h => ?_)
  · refine sw_aload_n X 0 rfl rfl dX1_letIn_13 ?_
    refine sw_iload_n X 1 rfl rfl dX1_letIn_14 ?_
    refine sw_iload X 2 rfl dX1_letIn_15 ?_
    refine sw_iload X 3 rfl dX1_letIn_17 ?_
    obtain ⟨u5, s4, c3, h⟩ := bd_E h
    refine sw_callVV X (o := 54) (As := (fun g => [.int a4, .int a5, .int a6])) sw_cl1 (show sw_kd 54 = 1 from rfl) ws_X1_weigh (by omega) (c_X1_weigh F a4 a5 a6 st c3) rfl rfl (Nat.le_of_ble_eq_true rfl) wm_X1_53 dX1_letIn_19 ?_
    exact sw_vret X hr hlk dX1_letIn_22 h
  · refine sw_icmp_ge X 13 (by decide) dX1_letIn_5 (fun q6 => ?_) (fun q6 => ?_)
    · have h := ite_T h q6
      refine sw_sub [0, 3, 4, 5] rfl ?_
      exact J2  h
    · have h := ite_F h q6
      refine sw_iload_n X 1 rfl rfl dX1_letIn_8 ?_
      refine sw_iconst X (v := 5) (by decide) dX1_letIn_9 ?_
      refine sw_icmp_lt X 23 (by decide) dX1_letIn_10 (fun q7 => ?_) (fun q7 => ?_)
      · have h := ite_T h q7
        refine sw_aload_n X 0 rfl rfl dX1_letIn_23 ?_
        refine sw_getR X sw_cl1 (show sw_kd 54 = 1 from rfl) (k := 0) rfl (by decide) (o1 := 15) rfl wf_X1_37 dX1_letIn_24 ?_
        refine sw_astore X [(6, .ref (g.1 15)), (0, .ref (g.1 54)), (1, .int a2), (2, .int a3), (3, .int a4), (4, .int a5), (5, .int a6)] (by decide) rfl dX1_letIn_27 ?_
        refine sw_aload_n X 1 rfl rfl dX1_letIn_29 ?_
        refine sw_getR X sw_cl1 (show sw_kd 54 = 1 from rfl) (k := 3) rfl (by decide) (o1 := 55) rfl wf_X1_18 dX1_letIn_30 ?_
        refine sw_iload_n X 2 rfl rfl dX1_letIn_33 ?_
        refine sw_bipush X (v := (-9)) (by decide) dX1_letIn_34 ?_
        obtain ⟨q8, h⟩ := bnd_E h
        refine sw_iast X (show sw_kd 55 = 8 from rfl) (n := 5) rfl q8 dX1_letIn_36 (fun s9 es9 => ?_)
        have h := nm_E h es9
        refine sw_aload_n X 1 rfl rfl dX1_letIn_37 ?_
        refine sw_iload_n X 2 rfl rfl dX1_letIn_38 ?_
        refine sw_iconst X (v := 1) (by decide) dX1_letIn_39 ?_
        refine sw_iadd X dX1_letIn_40 ?_
        refine sw_aload X 0 rfl dX1_letIn_41 ?_
        refine sw_iload_n X 3 rfl rfl dX1_letIn_43 ?_
        obtain ⟨r11, c10, h⟩ := bo_E h
        refine sw_callVI X (o := 15) (As := (fun g => [.int a3])) sw_cl4 (show sw_kd 15 = 4 from rfl) ws_X4_woundNext (by omega) (c_X4_woundNext F (show sw_kd 15 = 4 from rfl) a3 s9 c10) rfl rfl (Nat.le_of_ble_eq_true rfl) wm_X1_57 dX1_letIn_44 ?_
        refine sw_iload_n X 4 rfl rfl dX1_letIn_47 ?_
        refine sw_iload X 5 rfl dX1_letIn_48 ?_
        refine sw_iload X 6 rfl dX1_letIn_50 ?_
        refine sw_iload_n X 3 rfl rfl dX1_letIn_52 ?_
        refine jn1_E (fun (x12 : Int32) => sw_V p l e (5 + n + 1) s m args below meth c g (sw_A g s.heap.size) (sw_QV below g args s  st1) 10 61 [(0, .ref (g.1 54)), (1, .int a2), (2, .int a3), (3, .int a4), (4, .int a5), (5, .int a6), (6, .ref (g.1 15))] [.int x12, .int a6, .int a5, .int a4, .int r11, .int (a2 + 1), .ref (g.1 54)] s9) h (fun x12 h => ?_) (fun k13 J14 h => ?_)
        · refine sw_iadd X dX1_letIn_61 ?_
          obtain ⟨u42, s16, c15, h⟩ := bd_E h
          refine sw_callSV X (As := (fun g => [.ref (g.1 54), .int (a2 + 1), .int r11, .int a4, .int a5, .int (a6 + x12)])) ws_X1_letIn (by omega) (ihR (a2 + 1) r11 a4 a5 (a6 + x12) s9 _ c15) rfl rfl (Nat.le_of_ble_eq_true rfl) wm_X1_49 dX1_letIn_62 ?_
          refine sw_iconst X (v := 0) (by decide) dX1_letIn_65 ?_
          refine sw_istore X [(7, .int 0), (0, .ref (g.1 54)), (1, .int a2), (2, .int a3), (3, .int a4), (4, .int a5), (5, .int a6), (6, .ref (g.1 15))] (by decide) rfl dX1_letIn_66 ?_
          refine sw_sub [1, 2, 3, 4, 5, 6, 7, 0] rfl ?_
          refine lz2_E (fun (x17 : Int32) (s18 : sw_St) => sw_V p l e (5 + n + 1) s m args below meth c g (sw_A g s.heap.size) (sw_QV below g args s  st1) 10 68 [(0, .ref (g.1 54)), (1, .int a2), (2, .int a3), (3, .int a4), (4, .int a5), (5, .int a6), (6, .ref (g.1 15)), (7, .int x17)] [] s18) h (fun f19 ih20 x17 s18 h => ?_)
          refine sw_iload X 7 rfl dX1_letIn_68 ?_
          refine sw_aload X 6 rfl dX1_letIn_70 ?_
          refine sw_getI X sw_cl4 (show sw_kd 15 = 4 from rfl) (k := 0) rfl (by decide) wf_X1_61 dX1_letIn_72 ?_
          refine sw_icmp_ge X 160 (by decide) dX1_letIn_75 (fun q21 => ?_) (fun q21 => ?_)
          · have h := ite_T h q21
            exact sw_vret X hr hlk dX1_letIn_160 h
          · have h := ite_F h q21
            refine sw_iload_n X 3 rfl rfl dX1_letIn_78 ?_
            refine sw_iload X 7 rfl dX1_letIn_79 ?_
            refine sw_ishr X dX1_letIn_81 ?_
            refine sw_iconst X (v := 1) (by decide) dX1_letIn_82 ?_
            refine sw_iand X dX1_letIn_83 ?_
            refine jn1_E (fun (s22 : sw_St) => sw_V p l e (5 + n + 1) s m args below meth c g (sw_A g s.heap.size) (sw_QV below g args s  st1) 10 154 [(0, .ref (g.1 54)), (1, .int a2), (2, .int a3), (3, .int a4), (4, .int a5), (5, .int a6), (6, .ref (g.1 15)), (7, .int x17)] [] s22) h (fun s22 h => ?_) (fun k23 J24 h => ?_)
            · obtain ⟨x25, ex25⟩ : ∃ y : Int32, y = x17 + 1 := ⟨_, rfl⟩
              have h := nm_E h ex25
              refine sw_iinc X 7 x25 [(7, .int x25), (0, .ref (g.1 54)), (1, .int a2), (2, .int a3), (3, .int a4), (4, .int a5), (5, .int a6), (6, .ref (g.1 15))] rfl (by rw [ex25]; rfl) (by decide) rfl dX1_letIn_154 ?_
              refine sw_goto X 68 (by decide) dX1_letIn_157 ?_
              refine sw_sub [1, 2, 3, 4, 5, 6, 7, 0] rfl ?_
              exact ih20 _ _ h
            · refine sw_if_ne X 154 (by decide) dX1_letIn_84 (fun q26 => ?_) (fun q26 => ?_)
              · have h := ite_F h q26
                exact J24 _ h
              · have h := ite_T h q26
                refine sw_aload_n X 0 rfl rfl dX1_letIn_87 ?_
                refine sw_getR X sw_cl1 (show sw_kd 54 = 1 from rfl) (k := 3) rfl (by decide) (o1 := 55) rfl wf_X1_18 dX1_letIn_88 ?_
                refine sw_iload_n X 1 rfl rfl dX1_letIn_91 ?_
                refine sw_iload X 7 rfl dX1_letIn_92 ?_
                obtain ⟨q27, h⟩ := bnd_E h
                refine sw_iast X (show sw_kd 55 = 8 from rfl) (n := 5) rfl q27 dX1_letIn_94 (fun s28 es28 => ?_)
                have h := nm_E h es28
                refine sw_aload X 6 rfl dX1_letIn_95 ?_
                refine sw_iload X 7 rfl dX1_letIn_97 ?_
                refine sw_iload_n X 2 rfl rfl dX1_letIn_99 ?_
                refine sw_iload_n X 3 rfl rfl dX1_letIn_100 ?_
                obtain ⟨r30, c29, h⟩ := bo_E h
                refine sw_callVI X (o := 15) (As := (fun g => [.int x17, .int a3, .int a4])) sw_cl4 (show sw_kd 15 = 4 from rfl) ws_X4_woundBy (by omega) (c_X4_woundBy F (show sw_kd 15 = 4 from rfl) x17 a3 a4 s28 c29) rfl rfl (Nat.le_of_ble_eq_true rfl) wm_X1_64 dX1_letIn_101 ?_
                refine sw_istore X [(8, .int r30), (0, .ref (g.1 54)), (1, .int a2), (2, .int a3), (3, .int a4), (4, .int a5), (5, .int a6), (6, .ref (g.1 15)), (7, .int x17)] (by decide) rfl dX1_letIn_104 ?_
                refine sw_iload X 6 rfl dX1_letIn_106 ?_
                refine sw_iload X 0 rfl dX1_letIn_108 ?_
                refine jn1_E (fun (x31 : Int32) => sw_V p l e (5 + n + 1) s m args below meth c g (sw_A g s.heap.size) (sw_QV below g args s  st1) 10 118 [(0, .ref (g.1 54)), (1, .int a2), (2, .int a3), (3, .int a4), (4, .int a5), (5, .int a6), (6, .ref (g.1 15)), (7, .int x17), (8, .int r30)] [.int x31, .int a6] s28) h (fun x31 h => ?_) (fun k32 J33 h => ?_)
                · refine sw_iadd X dX1_letIn_118 ?_
                  refine sw_topi (fun x34 ex34 => ?_)
                  have h := nm_E h ex34
                  refine sw_istore X [(9, .int x34), (0, .ref (g.1 54)), (1, .int a2), (2, .int a3), (3, .int a4), (4, .int a5), (5, .int a6), (6, .ref (g.1 15)), (7, .int x17), (8, .int r30)] (by decide) rfl dX1_letIn_119 ?_
                  refine sw_aload_n X 1 rfl rfl dX1_letIn_121 ?_
                  refine sw_iload_n X 2 rfl rfl dX1_letIn_122 ?_
                  refine sw_iconst X (v := 1) (by decide) dX1_letIn_123 ?_
                  refine sw_iadd X dX1_letIn_124 ?_
                  refine sw_aload X 7 rfl dX1_letIn_125 ?_
                  refine sw_iload X 9 rfl dX1_letIn_127 ?_
                  obtain ⟨r36, c35, h⟩ := bo_E h
                  refine sw_callVI X (o := 15) (As := (fun g => [.int r30])) sw_cl4 (show sw_kd 15 = 4 from rfl) ws_X4_woundNext (by omega) (c_X4_woundNext F (show sw_kd 15 = 4 from rfl) r30 s28 c35) rfl rfl (Nat.le_of_ble_eq_true rfl) wm_X1_57 dX1_letIn_129 ?_
                  refine sw_iload_n X 4 rfl rfl dX1_letIn_132 ?_
                  refine sw_iconst X (v := 1) (by decide) dX1_letIn_133 ?_
                  refine sw_iload X 8 rfl dX1_letIn_134 ?_
                  refine sw_ishl X dX1_letIn_136 ?_
                  refine sw_ior X dX1_letIn_137 ?_
                  refine sw_iload X 5 rfl dX1_letIn_138 ?_
                  refine sw_aload X 7 rfl dX1_letIn_140 ?_
                  refine sw_getR X sw_cl4 (show sw_kd 15 = 4 from rfl) (k := 4) rfl (by decide) (o1 := 19) rfl wf_X1_68 dX1_letIn_142 ?_
                  refine sw_iload X 8 rfl dX1_letIn_145 ?_
                  obtain ⟨q37, h⟩ := bnd_E h
                  refine sw_iald X (show sw_kd 19 = 8 from rfl) (n := 6) rfl q37 dX1_letIn_147 ?_
                  refine sw_iadd X dX1_letIn_148 ?_
                  refine sw_iload X 0 rfl dX1_letIn_149 ?_
                  obtain ⟨u40, s39, c38, h⟩ := bd_E h
                  refine sw_callSV X (As := (fun g => [.ref (g.1 54), .int (a2 + 1), .int r36, .int (a4 ||| (1 <<< (x17 &&& 31))), .int (a5 + (s28.1 19 (x17 : Int32).toNatClampNeg)), .int x34])) ws_X1_letIn (by omega) (ihR (a2 + 1) r36 (a4 ||| (1 <<< (x17 &&& 31))) (a5 + (s28.1 19 (x17 : Int32).toNatClampNeg)) x34 s28 _ c38) rfl rfl (Nat.le_of_ble_eq_true rfl) wm_X1_49 dX1_letIn_151 ?_
                  refine sw_sub [1, 2, 3, 4, 5, 6, 7, 8] rfl ?_
                  exact J24 _ h
                · refine sw_if_le X 117 (by decide) dX1_letIn_110 (fun q41 => ?_) (fun q41 => ?_)
                  · have h := ite_T h q41
                    refine sw_iconst X (v := 0) (by decide) dX1_letIn_117 ?_
                    refine sw_sub [1, 2, 3, 4, 5, 6, 7, 8, 0] rfl ?_
                    exact J33 _ h
                  · have h := ite_F h q41
                    refine sw_iconst X (v := 1) (by decide) dX1_letIn_113 ?_
                    refine sw_goto X 118 (by decide) dX1_letIn_114 ?_
                    refine sw_sub [1, 2, 3, 4, 5, 6, 7, 8, 0] rfl ?_
                    exact J33 _ h
        · refine sw_if_le X 60 (by decide) dX1_letIn_53 (fun q43 => ?_) (fun q43 => ?_)
          · have h := ite_T h q43
            refine sw_iconst X (v := 0) (by decide) dX1_letIn_60 ?_
            refine sw_sub [1, 2, 3, 4, 5, 6, 0] rfl ?_
            exact J14 _ h
          · have h := ite_F h q43
            refine sw_iconst X (v := 1) (by decide) dX1_letIn_56 ?_
            refine sw_goto X 61 (by decide) dX1_letIn_57 ?_
            refine sw_sub [1, 2, 3, 4, 5, 6, 0] rfl ?_
            exact J14 _ h
      · have h := ite_F h q7
        refine sw_sub [0, 3, 4, 5] rfl ?_
        exact J2  h
theorem dX1_search_0 : decode cX1_search 0 = .ok (.aload_n 0, 1) := by decide +kernel
theorem dX1_search_1 : decode cX1_search 1 = .ok (.iload_n 1, 1) := by decide +kernel
theorem dX1_search_2 : decode cX1_search 2 = .ok (.putfield 9, 3) := by decide +kernel
theorem dX1_search_5 : decode cX1_search 5 = .ok (.aload_n 0, 1) := by decide +kernel
theorem dX1_search_6 : decode cX1_search 6 = .ok (.iload_n 2, 1) := by decide +kernel
theorem dX1_search_7 : decode cX1_search 7 = .ok (.putfield 15, 3) := by decide +kernel
theorem dX1_search_10 : decode cX1_search 10 = .ok (.aload_n 0, 1) := by decide +kernel
theorem dX1_search_11 : decode cX1_search 11 = .ok (.iconst 0, 1) := by decide +kernel
theorem dX1_search_12 : decode cX1_search 12 = .ok (.putfield 25, 3) := by decide +kernel
theorem dX1_search_15 : decode cX1_search 15 = .ok (.aload_n 0, 1) := by decide +kernel
theorem dX1_search_16 : decode cX1_search 16 = .ok (.bipush (-9), 2) := by decide +kernel
theorem dX1_search_18 : decode cX1_search 18 = .ok (.putfield 28, 3) := by decide +kernel
theorem dX1_search_21 : decode cX1_search 21 = .ok (.aload_n 0, 1) := by decide +kernel
theorem dX1_search_22 : decode cX1_search 22 = .ok (.iconst (-1), 1) := by decide +kernel
theorem dX1_search_23 : decode cX1_search 23 = .ok (.putfield 31, 3) := by decide +kernel
theorem dX1_search_26 : decode cX1_search 26 = .ok (.aload_n 0, 1) := by decide +kernel
theorem dX1_search_27 : decode cX1_search 27 = .ok (.iconst 0, 1) := by decide +kernel
theorem dX1_search_28 : decode cX1_search 28 = .ok (.putfield 34, 3) := by decide +kernel
theorem dX1_search_31 : decode cX1_search 31 = .ok (.aload_n 0, 1) := by decide +kernel
theorem dX1_search_32 : decode cX1_search 32 = .ok (.iconst 0, 1) := by decide +kernel
theorem dX1_search_33 : decode cX1_search 33 = .ok (.aload_n 0, 1) := by decide +kernel
theorem dX1_search_34 : decode cX1_search 34 = .ok (.getfield 37, 3) := by decide +kernel
theorem dX1_search_37 : decode cX1_search 37 = .ok (.getfield 41, 3) := by decide +kernel
theorem dX1_search_40 : decode cX1_search 40 = .ok (.aload_n 0, 1) := by decide +kernel
theorem dX1_search_41 : decode cX1_search 41 = .ok (.getfield 37, 3) := by decide +kernel
theorem dX1_search_44 : decode cX1_search 44 = .ok (.getfield 46, 3) := by decide +kernel
theorem dX1_search_47 : decode cX1_search 47 = .ok (.iconst 0, 1) := by decide +kernel
theorem dX1_search_48 : decode cX1_search 48 = .ok (.iconst 0, 1) := by decide +kernel
theorem dX1_search_49 : decode cX1_search 49 = .ok (.invokestatic 49, 3) := by decide +kernel
theorem dX1_search_52 : decode cX1_search 52 = .ok (.return_, 1) := by decide +kernel
def j_X1_search (F : Nat) (a1 : Int32) (a2 : Int32) (st : sw_St) : Option (Unit × sw_St) :=
nm (sw_setC st 54 1 a1) (fun (s1 : sw_St) =>
nm (sw_setC s1 54 2 a2) (fun (s2 : sw_St) =>
nm (sw_setC s2 54 5 0) (fun (s3 : sw_St) =>
nm (sw_setC s3 54 6 (-9)) (fun (s4 : sw_St) =>
nm (sw_setC s4 54 7 (-1)) (fun (s5 : sw_St) =>
nm (sw_setC s5 54 8 0) (fun (s6 : sw_St) =>
bd (j_X1_letIn F 7 0 (s6.1 15 7) (s6.1 15 11) 0 0 s6) (fun (_ : Unit) (s8 : sw_St) =>
some ((), s8))))))))
set_option maxHeartbeats 4000000 in
set_option maxRecDepth 100000 in
theorem c_X1_search (F : Nat) (a1 : Int32) (a2 : Int32) (st : sw_St) {st1 : sw_St} (h : j_X1_search F a1 a2 st = some ((), st1)) : sw_CV yX1_search (.code yX1_search cX1_search 3 none) 13 (fun g => [.ref (g.1 54), .int a1, .int a2]) st  st1 := by
  refine sw_entV RX1 (fun g => [(0, .ref (g.1 54)), (1, .int a1), (2, .int a2)]) (by decide) rfl (fun _ => Nat.le_of_ble_eq_true rfl) (fun _ => rfl) ?_
  intro p l e s m args below meth c g X hr hlk
  unfold j_X1_search at h
  refine sw_aload_n X 0 rfl rfl dX1_search_0 ?_
  refine sw_iload_n X 1 rfl rfl dX1_search_1 ?_
  refine sw_putI X sw_cl1 (show sw_kd 54 = 1 from rfl) (k := 1) rfl (by decide) rfl rfl wf_X1_9 dX1_search_2 (fun s1 es1 => ?_)
  have h := nm_E h es1
  refine sw_aload_n X 0 rfl rfl dX1_search_5 ?_
  refine sw_iload_n X 2 rfl rfl dX1_search_6 ?_
  refine sw_putI X sw_cl1 (show sw_kd 54 = 1 from rfl) (k := 2) rfl (by decide) rfl rfl wf_X1_15 dX1_search_7 (fun s2 es2 => ?_)
  have h := nm_E h es2
  refine sw_aload_n X 0 rfl rfl dX1_search_10 ?_
  refine sw_iconst X (v := 0) (by decide) dX1_search_11 ?_
  refine sw_putI X sw_cl1 (show sw_kd 54 = 1 from rfl) (k := 5) rfl (by decide) rfl rfl wf_X1_25 dX1_search_12 (fun s3 es3 => ?_)
  have h := nm_E h es3
  refine sw_aload_n X 0 rfl rfl dX1_search_15 ?_
  refine sw_bipush X (v := (-9)) (by decide) dX1_search_16 ?_
  refine sw_putI X sw_cl1 (show sw_kd 54 = 1 from rfl) (k := 6) rfl (by decide) rfl rfl wf_X1_28 dX1_search_18 (fun s4 es4 => ?_)
  have h := nm_E h es4
  refine sw_aload_n X 0 rfl rfl dX1_search_21 ?_
  refine sw_iconst X (v := (-1)) (by decide) dX1_search_22 ?_
  refine sw_putI X sw_cl1 (show sw_kd 54 = 1 from rfl) (k := 7) rfl (by decide) rfl rfl wf_X1_31 dX1_search_23 (fun s5 es5 => ?_)
  have h := nm_E h es5
  refine sw_aload_n X 0 rfl rfl dX1_search_26 ?_
  refine sw_iconst X (v := 0) (by decide) dX1_search_27 ?_
  refine sw_putI X sw_cl1 (show sw_kd 54 = 1 from rfl) (k := 8) rfl (by decide) rfl rfl wf_X1_34 dX1_search_28 (fun s6 es6 => ?_)
  have h := nm_E h es6
  refine sw_aload_n X 0 rfl rfl dX1_search_31 ?_
  refine sw_iconst X (v := 0) (by decide) dX1_search_32 ?_
  refine sw_aload_n X 0 rfl rfl dX1_search_33 ?_
  refine sw_getR X sw_cl1 (show sw_kd 54 = 1 from rfl) (k := 0) rfl (by decide) (o1 := 15) rfl wf_X1_37 dX1_search_34 ?_
  refine sw_getI X sw_cl4 (show sw_kd 15 = 4 from rfl) (k := 7) rfl (by decide) wf_X1_41 dX1_search_37 ?_
  refine sw_aload_n X 0 rfl rfl dX1_search_40 ?_
  refine sw_getR X sw_cl1 (show sw_kd 54 = 1 from rfl) (k := 0) rfl (by decide) (o1 := 15) rfl wf_X1_37 dX1_search_41 ?_
  refine sw_getI X sw_cl4 (show sw_kd 15 = 4 from rfl) (k := 11) rfl (by decide) wf_X1_46 dX1_search_44 ?_
  refine sw_iconst X (v := 0) (by decide) dX1_search_47 ?_
  refine sw_iconst X (v := 0) (by decide) dX1_search_48 ?_
  obtain ⟨u9, s8, c7, h⟩ := bd_E h
  refine sw_callSV X (As := (fun g => [.ref (g.1 54), .int 0, .int (s6.1 15 7), .int (s6.1 15 11), .int 0, .int 0])) ws_X1_letIn (by omega) (c_X1_letIn F 7 0 (s6.1 15 7) (s6.1 15 11) 0 0 s6 _ c7) rfl rfl (Nat.le_of_ble_eq_true rfl) wm_X1_49 dX1_search_49 ?_
  exact sw_vret X hr hlk dX1_search_52 h
theorem dX2_lineUp_0 : decode cX2_lineUp 0 = .ok (.iload_n 1, 1) := by decide +kernel
theorem dX2_lineUp_1 : decode cX2_lineUp 1 = .ok (.aload_n 0, 1) := by decide +kernel
theorem dX2_lineUp_2 : decode cX2_lineUp 2 = .ok (.getfield 18, 3) := by decide +kernel
theorem dX2_lineUp_5 : decode cX2_lineUp 5 = .ok (.if_icmp .ge 9, 3) := by decide +kernel
theorem dX2_lineUp_8 : decode cX2_lineUp 8 = .ok (.iload_n 1, 1) := by decide +kernel
theorem dX2_lineUp_9 : decode cX2_lineUp 9 = .ok (.bipush 6, 2) := by decide +kernel
theorem dX2_lineUp_11 : decode cX2_lineUp 11 = .ok (.if_icmp .lt 34, 3) := by decide +kernel
theorem dX2_lineUp_14 : decode cX2_lineUp 14 = .ok (.iload_n 2, 1) := by decide +kernel
theorem dX2_lineUp_15 : decode cX2_lineUp 15 = .ok (.aload_n 0, 1) := by decide +kernel
theorem dX2_lineUp_16 : decode cX2_lineUp 16 = .ok (.getfield 22, 3) := by decide +kernel
theorem dX2_lineUp_19 : decode cX2_lineUp 19 = .ok (.if_icmp .le 25, 3) := by decide +kernel
theorem dX2_lineUp_22 : decode cX2_lineUp 22 = .ok (.aload_n 0, 1) := by decide +kernel
theorem dX2_lineUp_23 : decode cX2_lineUp 23 = .ok (.iload_n 2, 1) := by decide +kernel
theorem dX2_lineUp_24 : decode cX2_lineUp 24 = .ok (.putfield 22, 3) := by decide +kernel
theorem dX2_lineUp_27 : decode cX2_lineUp 27 = .ok (.aload_n 0, 1) := by decide +kernel
theorem dX2_lineUp_28 : decode cX2_lineUp 28 = .ok (.getfield 9, 3) := by decide +kernel
theorem dX2_lineUp_31 : decode cX2_lineUp 31 = .ok (.iconst 0, 1) := by decide +kernel
theorem dX2_lineUp_32 : decode cX2_lineUp 32 = .ok (.aload_n 0, 1) := by decide +kernel
theorem dX2_lineUp_33 : decode cX2_lineUp 33 = .ok (.getfield 15, 3) := by decide +kernel
theorem dX2_lineUp_36 : decode cX2_lineUp 36 = .ok (.iconst 0, 1) := by decide +kernel
theorem dX2_lineUp_37 : decode cX2_lineUp 37 = .ok (.aload_n 0, 1) := by decide +kernel
theorem dX2_lineUp_38 : decode cX2_lineUp 38 = .ok (.getfield 18, 3) := by decide +kernel
theorem dX2_lineUp_41 : decode cX2_lineUp 41 = .ok (.invokestatic 51, 3) := by decide +kernel
theorem dX2_lineUp_44 : decode cX2_lineUp 44 = .ok (.return_, 1) := by decide +kernel
theorem dX2_lineUp_45 : decode cX2_lineUp 45 = .ok (.iconst 0, 1) := by decide +kernel
theorem dX2_lineUp_46 : decode cX2_lineUp 46 = .ok (.istore 4, 2) := by decide +kernel
theorem dX2_lineUp_48 : decode cX2_lineUp 48 = .ok (.iload 4, 2) := by decide +kernel
theorem dX2_lineUp_50 : decode cX2_lineUp 50 = .ok (.aload_n 0, 1) := by decide +kernel
theorem dX2_lineUp_51 : decode cX2_lineUp 51 = .ok (.getfield 25, 3) := by decide +kernel
theorem dX2_lineUp_54 : decode cX2_lineUp 54 = .ok (.getfield 57, 3) := by decide +kernel
theorem dX2_lineUp_57 : decode cX2_lineUp 57 = .ok (.if_icmp .ge 50, 3) := by decide +kernel
theorem dX2_lineUp_60 : decode cX2_lineUp 60 = .ok (.iload_n 3, 1) := by decide +kernel
theorem dX2_lineUp_61 : decode cX2_lineUp 61 = .ok (.iload 4, 2) := by decide +kernel
theorem dX2_lineUp_63 : decode cX2_lineUp 63 = .ok (.ishr, 1) := by decide +kernel
theorem dX2_lineUp_64 : decode cX2_lineUp 64 = .ok (.iconst 1, 1) := by decide +kernel
theorem dX2_lineUp_65 : decode cX2_lineUp 65 = .ok (.iand, 1) := by decide +kernel
theorem dX2_lineUp_66 : decode cX2_lineUp 66 = .ok (.ifCond .ne 35, 3) := by decide +kernel
theorem dX2_lineUp_69 : decode cX2_lineUp 69 = .ok (.aload_n 0, 1) := by decide +kernel
theorem dX2_lineUp_70 : decode cX2_lineUp 70 = .ok (.getfield 9, 3) := by decide +kernel
theorem dX2_lineUp_73 : decode cX2_lineUp 73 = .ok (.iload_n 1, 1) := by decide +kernel
theorem dX2_lineUp_74 : decode cX2_lineUp 74 = .ok (.iload 4, 2) := by decide +kernel
theorem dX2_lineUp_76 : decode cX2_lineUp 76 = .ok (.iastore, 1) := by decide +kernel
theorem dX2_lineUp_77 : decode cX2_lineUp 77 = .ok (.aload_n 0, 1) := by decide +kernel
theorem dX2_lineUp_78 : decode cX2_lineUp 78 = .ok (.iload_n 1, 1) := by decide +kernel
theorem dX2_lineUp_79 : decode cX2_lineUp 79 = .ok (.iconst 1, 1) := by decide +kernel
theorem dX2_lineUp_80 : decode cX2_lineUp 80 = .ok (.iadd, 1) := by decide +kernel
theorem dX2_lineUp_81 : decode cX2_lineUp 81 = .ok (.aload_n 0, 1) := by decide +kernel
theorem dX2_lineUp_82 : decode cX2_lineUp 82 = .ok (.getfield 25, 3) := by decide +kernel
theorem dX2_lineUp_85 : decode cX2_lineUp 85 = .ok (.iload 4, 2) := by decide +kernel
theorem dX2_lineUp_87 : decode cX2_lineUp 87 = .ok (.iload_n 2, 1) := by decide +kernel
theorem dX2_lineUp_88 : decode cX2_lineUp 88 = .ok (.iload_n 3, 1) := by decide +kernel
theorem dX2_lineUp_89 : decode cX2_lineUp 89 = .ok (.invokevirtual 60, 3) := by decide +kernel
theorem dX2_lineUp_92 : decode cX2_lineUp 92 = .ok (.iload_n 3, 1) := by decide +kernel
theorem dX2_lineUp_93 : decode cX2_lineUp 93 = .ok (.iconst 1, 1) := by decide +kernel
theorem dX2_lineUp_94 : decode cX2_lineUp 94 = .ok (.iload 4, 2) := by decide +kernel
theorem dX2_lineUp_96 : decode cX2_lineUp 96 = .ok (.ishl, 1) := by decide +kernel
theorem dX2_lineUp_97 : decode cX2_lineUp 97 = .ok (.ior, 1) := by decide +kernel
theorem dX2_lineUp_98 : decode cX2_lineUp 98 = .ok (.invokestatic 47, 3) := by decide +kernel
theorem dX2_lineUp_101 : decode cX2_lineUp 101 = .ok (.iinc 4 1, 3) := by decide +kernel
theorem dX2_lineUp_104 : decode cX2_lineUp 104 = .ok (.goto (-56), 3) := by decide +kernel
theorem dX2_lineUp_107 : decode cX2_lineUp 107 = .ok (.return_, 1) := by decide +kernel
def j_X2_lineUp (F : Nat) : Nat → Int32 → Int32 → Int32 → sw_St → Option (Unit × sw_St)
  | 0, _, _, _, _ => none
  | n + 1, a2, a3, a4, st =>
  jn (
    jn (fun (s3 : sw_St) => 
      some ((), s3)) (fun k4 =>
     (if a3 ≤ (st.1 57 4) then (
      k4 st)
     else (
      nm (sw_setC st 57 4 a3) (fun (s7 : sw_St) =>
      grd ((¬ 0 < (0 : Int32)) ∧ (¬ 0 < (0 : Int32)) ∧ (¬ (s7.1 57 3) < (0 : Int32)) ∧ (0 : Int32).toNatClampNeg + ((s7.1 57 3) : Int32).toNatClampNeg ≤ 6 ∧ (0 : Int32).toNatClampNeg + ((s7.1 57 3) : Int32).toNatClampNeg ≤ 6) (
      nm (sw_setA s7 59 (va_cpy (s7.1 58) (s7.1 59) (0 : Int32).toNatClampNeg (0 : Int32).toNatClampNeg ((s7.1 57 3) : Int32).toNatClampNeg)) (fun (s8 : sw_St) =>
      k4 s8))))))) (fun k1 =>
   (if (st.1 57 3) ≤ a2 then (
    k1)
   else (
    (if a2 < 6 then (
     lz2 (fun f14 (x12 : Int32) (s13 : sw_St) =>
      (if (s13.1 15 0) ≤ x12 then (
       some ((), s13))
      else (
       jn (fun (s17 : sw_St) => 
         nm (x12 + 1) (fun (x20 : Int32) =>
         f14 x20 s17)) (fun k18 =>
        (if ((a4 >>> (x12 &&& 31)) &&& 1) = 0 then (
         bnd a2 6 (
         nm (sw_setC s13 58 (a2 : Int32).toNatClampNeg x12) (fun (s23 : sw_St) =>
         bo (j_X4_woundBy F 15 x12 a3 a4 s23) (fun (r25 : Int32) =>
         bd (j_X2_lineUp F n (a2 + 1) r25 (a4 ||| (1 <<< (x12 &&& 31))) s23) (fun (_ : Unit) (s27 : sw_St) =>
         k18 s27)))))
        else (
         k18 s13)))))) F 0 st)
    else (
     k1)))))
set_option maxHeartbeats 4000000 in
set_option maxRecDepth 100000 in
theorem c_X2_lineUp (F : Nat) : ∀ (n : Nat) (a2 : Int32) (a3 : Int32) (a4 : Int32) (st : sw_St) (st1 : sw_St), j_X2_lineUp F n a2 a3 a4 st = some ((), st1) → sw_CV yX2_lineUp (.code yX2_lineUp cX2_lineUp 5 none) (5 + n) (fun g => [.ref (g.1 57), .int a2, .int a3, .int a4]) st  st1 := by
  intro n
  induction n with
  | zero => intro a2 a3 a4 st st1 h; cases h
  | succ n ihR =>
  intro a2 a3 a4 st st1 h
  refine sw_entV RX2 (fun g => [(0, .ref (g.1 57)), (1, .int a2), (2, .int a3), (3, .int a4)]) (by decide) rfl (fun _ => Nat.le_of_ble_eq_true rfl) (fun _ => rfl) ?_
  intro p l e s m args below meth c g X hr hlk
  rw [j_X2_lineUp] at h
  refine sw_iload_n X 1 rfl rfl dX2_lineUp_0 ?_
  refine sw_aload_n X 0 rfl rfl dX2_lineUp_1 ?_
  refine sw_getI X sw_cl2 (show sw_kd 57 = 2 from rfl) (k := 3) rfl (by decide) wf_X2_18 dX2_lineUp_2 ?_
  refine jn0_E (sw_V p l e (5 + n + 1) s m args below meth c g (sw_A g s.heap.size) (sw_QV below g args s  st1) 5 14 [(0, .ref (g.1 57)), (2, .int a3)] [] st) h (fun h => ?_) (fun k1 J2 h => ?_)
  · refine sw_iload_n X 1 rfl rfl dX2_lineUp_14 ?_
    refine sw_aload_n X 0 rfl rfl dX2_lineUp_15 ?_
    refine sw_getI X sw_cl2 (show sw_kd 57 = 2 from rfl) (k := 4) rfl (by decide) wf_X2_22 dX2_lineUp_16 ?_
    refine jn1_E (fun (s3 : sw_St) => sw_V p l e (5 + n + 1) s m args below meth c g (sw_A g s.heap.size) (sw_QV below g args s  st1) 5 44 [] [] s3) h (fun s3 h => ?_) (fun k4 J5 h => ?_)
    · exact sw_vret X hr hlk dX2_lineUp_44 h
    · refine sw_icmp_le X 44 (by decide) dX2_lineUp_19 (fun q6 => ?_) (fun q6 => ?_)
      · have h := ite_T h q6
        refine sw_sub [] rfl ?_
        exact J5 _ h
      · have h := ite_F h q6
        refine sw_aload_n X 0 rfl rfl dX2_lineUp_22 ?_
        refine sw_iload_n X 1 rfl rfl dX2_lineUp_23 ?_
        refine sw_putI X sw_cl2 (show sw_kd 57 = 2 from rfl) (k := 4) rfl (by decide) rfl rfl wf_X2_22 dX2_lineUp_24 (fun s7 es7 => ?_)
        have h := nm_E h es7
        refine sw_aload_n X 0 rfl rfl dX2_lineUp_27 ?_
        refine sw_getR X sw_cl2 (show sw_kd 57 = 2 from rfl) (k := 1) rfl (by decide) (o1 := 58) rfl wf_X2_9 dX2_lineUp_28 ?_
        refine sw_iconst X (v := 0) (by decide) dX2_lineUp_31 ?_
        refine sw_aload_n X 0 rfl rfl dX2_lineUp_32 ?_
        refine sw_getR X sw_cl2 (show sw_kd 57 = 2 from rfl) (k := 2) rfl (by decide) (o1 := 59) rfl wf_X2_15 dX2_lineUp_33 ?_
        refine sw_iconst X (v := 0) (by decide) dX2_lineUp_36 ?_
        refine sw_aload_n X 0 rfl rfl dX2_lineUp_37 ?_
        refine sw_getI X sw_cl2 (show sw_kd 57 = 2 from rfl) (k := 3) rfl (by decide) wf_X2_18 dX2_lineUp_38 ?_
        obtain ⟨q9, h⟩ := grd_E h
        refine sw_copy X (show sw_kd 58 = 8 from rfl) (n0 := 6) rfl (show sw_kd 59 = 8 from rfl) (n1 := 6) rfl q9.1 q9.2.1 q9.2.2.1 q9.2.2.2.1 q9.2.2.2.2 wm_X2_51 ws_copy.1 ws_copy.2.1 ws_copy.2.2 (by omega) (Nat.le_of_ble_eq_true rfl) dX2_lineUp_41 (fun s8 es8 => ?_)
        have h := nm_E h es8
        refine sw_sub [] rfl ?_
        exact J5 _ h
  · refine sw_icmp_ge X 14 (by decide) dX2_lineUp_5 (fun q10 => ?_) (fun q10 => ?_)
    · have h := ite_T h q10
      refine sw_sub [0, 2] rfl ?_
      exact J2  h
    · have h := ite_F h q10
      refine sw_iload_n X 1 rfl rfl dX2_lineUp_8 ?_
      refine sw_bipush X (v := 6) (by decide) dX2_lineUp_9 ?_
      refine sw_icmp_lt X 45 (by decide) dX2_lineUp_11 (fun q11 => ?_) (fun q11 => ?_)
      · have h := ite_T h q11
        refine sw_iconst X (v := 0) (by decide) dX2_lineUp_45 ?_
        refine sw_istore X [(4, .int 0), (0, .ref (g.1 57)), (1, .int a2), (2, .int a3), (3, .int a4)] (by decide) rfl dX2_lineUp_46 ?_
        refine sw_sub [1, 2, 3, 4, 0] rfl ?_
        refine lz2_E (fun (x12 : Int32) (s13 : sw_St) => sw_V p l e (5 + n + 1) s m args below meth c g (sw_A g s.heap.size) (sw_QV below g args s  st1) 5 48 [(0, .ref (g.1 57)), (1, .int a2), (2, .int a3), (3, .int a4), (4, .int x12)] [] s13) h (fun f14 ih15 x12 s13 h => ?_)
        refine sw_iload X 4 rfl dX2_lineUp_48 ?_
        refine sw_aload_n X 0 rfl rfl dX2_lineUp_50 ?_
        refine sw_getR X sw_cl2 (show sw_kd 57 = 2 from rfl) (k := 0) rfl (by decide) (o1 := 15) rfl wf_X2_25 dX2_lineUp_51 ?_
        refine sw_getI X sw_cl4 (show sw_kd 15 = 4 from rfl) (k := 0) rfl (by decide) wf_X2_57 dX2_lineUp_54 ?_
        refine sw_icmp_ge X 107 (by decide) dX2_lineUp_57 (fun q16 => ?_) (fun q16 => ?_)
        · have h := ite_T h q16
          exact sw_vret X hr hlk dX2_lineUp_107 h
        · have h := ite_F h q16
          refine sw_iload_n X 3 rfl rfl dX2_lineUp_60 ?_
          refine sw_iload X 4 rfl dX2_lineUp_61 ?_
          refine sw_ishr X dX2_lineUp_63 ?_
          refine sw_iconst X (v := 1) (by decide) dX2_lineUp_64 ?_
          refine sw_iand X dX2_lineUp_65 ?_
          refine jn1_E (fun (s17 : sw_St) => sw_V p l e (5 + n + 1) s m args below meth c g (sw_A g s.heap.size) (sw_QV below g args s  st1) 5 101 [(0, .ref (g.1 57)), (1, .int a2), (2, .int a3), (3, .int a4), (4, .int x12)] [] s17) h (fun s17 h => ?_) (fun k18 J19 h => ?_)
          · obtain ⟨x20, ex20⟩ : ∃ y : Int32, y = x12 + 1 := ⟨_, rfl⟩
            have h := nm_E h ex20
            refine sw_iinc X 4 x20 [(4, .int x20), (0, .ref (g.1 57)), (1, .int a2), (2, .int a3), (3, .int a4)] rfl (by rw [ex20]; rfl) (by decide) rfl dX2_lineUp_101 ?_
            refine sw_goto X 48 (by decide) dX2_lineUp_104 ?_
            refine sw_sub [1, 2, 3, 4, 0] rfl ?_
            exact ih15 _ _ h
          · refine sw_if_ne X 101 (by decide) dX2_lineUp_66 (fun q21 => ?_) (fun q21 => ?_)
            · have h := ite_F h q21
              exact J19 _ h
            · have h := ite_T h q21
              refine sw_aload_n X 0 rfl rfl dX2_lineUp_69 ?_
              refine sw_getR X sw_cl2 (show sw_kd 57 = 2 from rfl) (k := 1) rfl (by decide) (o1 := 58) rfl wf_X2_9 dX2_lineUp_70 ?_
              refine sw_iload_n X 1 rfl rfl dX2_lineUp_73 ?_
              refine sw_iload X 4 rfl dX2_lineUp_74 ?_
              obtain ⟨q22, h⟩ := bnd_E h
              refine sw_iast X (show sw_kd 58 = 8 from rfl) (n := 6) rfl q22 dX2_lineUp_76 (fun s23 es23 => ?_)
              have h := nm_E h es23
              refine sw_aload_n X 0 rfl rfl dX2_lineUp_77 ?_
              refine sw_iload_n X 1 rfl rfl dX2_lineUp_78 ?_
              refine sw_iconst X (v := 1) (by decide) dX2_lineUp_79 ?_
              refine sw_iadd X dX2_lineUp_80 ?_
              refine sw_aload_n X 0 rfl rfl dX2_lineUp_81 ?_
              refine sw_getR X sw_cl2 (show sw_kd 57 = 2 from rfl) (k := 0) rfl (by decide) (o1 := 15) rfl wf_X2_25 dX2_lineUp_82 ?_
              refine sw_iload X 4 rfl dX2_lineUp_85 ?_
              refine sw_iload_n X 2 rfl rfl dX2_lineUp_87 ?_
              refine sw_iload_n X 3 rfl rfl dX2_lineUp_88 ?_
              obtain ⟨r25, c24, h⟩ := bo_E h
              refine sw_callVI X (o := 15) (As := (fun g => [.int x12, .int a3, .int a4])) sw_cl4 (show sw_kd 15 = 4 from rfl) ws_X4_woundBy (by omega) (c_X4_woundBy F (show sw_kd 15 = 4 from rfl) x12 a3 a4 s23 c24) rfl rfl (Nat.le_of_ble_eq_true rfl) wm_X2_60 dX2_lineUp_89 ?_
              refine sw_iload_n X 3 rfl rfl dX2_lineUp_92 ?_
              refine sw_iconst X (v := 1) (by decide) dX2_lineUp_93 ?_
              refine sw_iload X 4 rfl dX2_lineUp_94 ?_
              refine sw_ishl X dX2_lineUp_96 ?_
              refine sw_ior X dX2_lineUp_97 ?_
              obtain ⟨u28, s27, c26, h⟩ := bd_E h
              refine sw_callSV X (As := (fun g => [.ref (g.1 57), .int (a2 + 1), .int r25, .int (a4 ||| (1 <<< (x12 &&& 31)))])) ws_X2_lineUp (by omega) (ihR (a2 + 1) r25 (a4 ||| (1 <<< (x12 &&& 31))) s23 _ c26) rfl rfl (Nat.le_of_ble_eq_true rfl) wm_X2_47 dX2_lineUp_98 ?_
              exact J19 _ h
      · have h := ite_F h q11
        refine sw_sub [0, 2] rfl ?_
        exact J2  h
theorem dX2_search_0 : decode cX2_search 0 = .ok (.aload_n 0, 1) := by decide +kernel
theorem dX2_search_1 : decode cX2_search 1 = .ok (.aload_n 0, 1) := by decide +kernel
theorem dX2_search_2 : decode cX2_search 2 = .ok (.getfield 25, 3) := by decide +kernel
theorem dX2_search_5 : decode cX2_search 5 = .ok (.invokevirtual 29, 3) := by decide +kernel
theorem dX2_search_8 : decode cX2_search 8 = .ok (.invokestatic 35, 3) := by decide +kernel
theorem dX2_search_11 : decode cX2_search 11 = .ok (.putfield 18, 3) := by decide +kernel
theorem dX2_search_14 : decode cX2_search 14 = .ok (.aload_n 0, 1) := by decide +kernel
theorem dX2_search_15 : decode cX2_search 15 = .ok (.iconst (-1), 1) := by decide +kernel
theorem dX2_search_16 : decode cX2_search 16 = .ok (.putfield 22, 3) := by decide +kernel
theorem dX2_search_19 : decode cX2_search 19 = .ok (.aload_n 0, 1) := by decide +kernel
theorem dX2_search_20 : decode cX2_search 20 = .ok (.iconst 0, 1) := by decide +kernel
theorem dX2_search_21 : decode cX2_search 21 = .ok (.aload_n 0, 1) := by decide +kernel
theorem dX2_search_22 : decode cX2_search 22 = .ok (.getfield 25, 3) := by decide +kernel
theorem dX2_search_25 : decode cX2_search 25 = .ok (.getfield 41, 3) := by decide +kernel
theorem dX2_search_28 : decode cX2_search 28 = .ok (.aload_n 0, 1) := by decide +kernel
theorem dX2_search_29 : decode cX2_search 29 = .ok (.getfield 25, 3) := by decide +kernel
theorem dX2_search_32 : decode cX2_search 32 = .ok (.getfield 44, 3) := by decide +kernel
theorem dX2_search_35 : decode cX2_search 35 = .ok (.invokestatic 47, 3) := by decide +kernel
theorem dX2_search_38 : decode cX2_search 38 = .ok (.return_, 1) := by decide +kernel
def j_X2_search (F : Nat) (st : sw_St) : Option (Unit × sw_St) :=
bo (j_X4_notIn F 15 st) (fun (r2 : Int32) =>
bo (j_J6_bitCount_0f7a4 F r2 st) (fun (r4 : Int32) =>
nm (sw_setC st 57 3 r4) (fun (s5 : sw_St) =>
nm (sw_setC s5 57 4 (-1)) (fun (s6 : sw_St) =>
bd (j_X2_lineUp F 8 0 (s6.1 15 7) (s6.1 15 11) s6) (fun (_ : Unit) (s8 : sw_St) =>
some ((), s8))))))
set_option maxHeartbeats 4000000 in
set_option maxRecDepth 100000 in
theorem c_X2_search (F : Nat) (st : sw_St) {st1 : sw_St} (h : j_X2_search F  st = some ((), st1)) : sw_CV yX2_search (.code yX2_search cX2_search 1 none) 14 (fun g => [.ref (g.1 57)]) st  st1 := by
  refine sw_entV RX2 (fun g => [(0, .ref (g.1 57))]) (by decide) rfl (fun _ => Nat.le_of_ble_eq_true rfl) (fun _ => rfl) ?_
  intro p l e s m args below meth c g X hr hlk
  unfold j_X2_search at h
  refine sw_aload_n X 0 rfl rfl dX2_search_0 ?_
  refine sw_aload_n X 0 rfl rfl dX2_search_1 ?_
  refine sw_getR X sw_cl2 (show sw_kd 57 = 2 from rfl) (k := 0) rfl (by decide) (o1 := 15) rfl wf_X2_25 dX2_search_2 ?_
  obtain ⟨r2, c1, h⟩ := bo_E h
  refine sw_callVI X (o := 15) (As := (fun g => [])) sw_cl4 (show sw_kd 15 = 4 from rfl) ws_X4_notIn (by omega) (c_X4_notIn F (show sw_kd 15 = 4 from rfl) st c1) rfl rfl (Nat.le_of_ble_eq_true rfl) wm_X2_29 dX2_search_5 ?_
  obtain ⟨r4, c3, h⟩ := bo_E h
  refine sw_callSI X (As := (fun g => [.int r2])) ws_J6_bitCount_0f7a4 (by omega) (c_J6_bitCount_0f7a4 F r2 st c3) rfl rfl (Nat.le_of_ble_eq_true rfl) wm_X2_35 dX2_search_8 ?_
  refine sw_putI X sw_cl2 (show sw_kd 57 = 2 from rfl) (k := 3) rfl (by decide) rfl rfl wf_X2_18 dX2_search_11 (fun s5 es5 => ?_)
  have h := nm_E h es5
  refine sw_aload_n X 0 rfl rfl dX2_search_14 ?_
  refine sw_iconst X (v := (-1)) (by decide) dX2_search_15 ?_
  refine sw_putI X sw_cl2 (show sw_kd 57 = 2 from rfl) (k := 4) rfl (by decide) rfl rfl wf_X2_22 dX2_search_16 (fun s6 es6 => ?_)
  have h := nm_E h es6
  refine sw_aload_n X 0 rfl rfl dX2_search_19 ?_
  refine sw_iconst X (v := 0) (by decide) dX2_search_20 ?_
  refine sw_aload_n X 0 rfl rfl dX2_search_21 ?_
  refine sw_getR X sw_cl2 (show sw_kd 57 = 2 from rfl) (k := 0) rfl (by decide) (o1 := 15) rfl wf_X2_25 dX2_search_22 ?_
  refine sw_getI X sw_cl4 (show sw_kd 15 = 4 from rfl) (k := 7) rfl (by decide) wf_X2_41 dX2_search_25 ?_
  refine sw_aload_n X 0 rfl rfl dX2_search_28 ?_
  refine sw_getR X sw_cl2 (show sw_kd 57 = 2 from rfl) (k := 0) rfl (by decide) (o1 := 15) rfl wf_X2_25 dX2_search_29 ?_
  refine sw_getI X sw_cl4 (show sw_kd 15 = 4 from rfl) (k := 11) rfl (by decide) wf_X2_44 dX2_search_32 ?_
  obtain ⟨u9, s8, c7, h⟩ := bd_E h
  refine sw_callSV X (As := (fun g => [.ref (g.1 57), .int 0, .int (s6.1 15 7), .int (s6.1 15 11)])) ws_X2_lineUp (by omega) (c_X2_lineUp F 8 0 (s6.1 15 7) (s6.1 15 11) s6 _ c7) rfl rfl (Nat.le_of_ble_eq_true rfl) wm_X2_47 dX2_search_35 ?_
  exact sw_vret X hr hlk dX2_search_38 h
theorem dX3_readFigure_0 : decode cX3_readFigure 0 = .ok (.aload_n 0, 1) := by decide +kernel
theorem dX3_readFigure_1 : decode cX3_readFigure 1 = .ok (.getfield 19, 3) := by decide +kernel
theorem dX3_readFigure_4 : decode cX3_readFigure 4 = .ok (.aload_n 0, 1) := by decide +kernel
theorem dX3_readFigure_5 : decode cX3_readFigure 5 = .ok (.getfield 15, 3) := by decide +kernel
theorem dX3_readFigure_8 : decode cX3_readFigure 8 = .ok (.if_icmp .ge 35, 3) := by decide +kernel
theorem dX3_readFigure_11 : decode cX3_readFigure 11 = .ok (.aload_n 0, 1) := by decide +kernel
theorem dX3_readFigure_12 : decode cX3_readFigure 12 = .ok (.getfield 9, 3) := by decide +kernel
theorem dX3_readFigure_15 : decode cX3_readFigure 15 = .ok (.aload_n 0, 1) := by decide +kernel
theorem dX3_readFigure_16 : decode cX3_readFigure 16 = .ok (.getfield 19, 3) := by decide +kernel
theorem dX3_readFigure_19 : decode cX3_readFigure 19 = .ok (.baload, 1) := by decide +kernel
theorem dX3_readFigure_20 : decode cX3_readFigure 20 = .ok (.bipush 48, 2) := by decide +kernel
theorem dX3_readFigure_22 : decode cX3_readFigure 22 = .ok (.iload_n 1, 1) := by decide +kernel
theorem dX3_readFigure_23 : decode cX3_readFigure 23 = .ok (.iadd, 1) := by decide +kernel
theorem dX3_readFigure_24 : decode cX3_readFigure 24 = .ok (.if_icmp .lt 19, 3) := by decide +kernel
theorem dX3_readFigure_27 : decode cX3_readFigure 27 = .ok (.aload_n 0, 1) := by decide +kernel
theorem dX3_readFigure_28 : decode cX3_readFigure 28 = .ok (.getfield 9, 3) := by decide +kernel
theorem dX3_readFigure_31 : decode cX3_readFigure 31 = .ok (.aload_n 0, 1) := by decide +kernel
theorem dX3_readFigure_32 : decode cX3_readFigure 32 = .ok (.getfield 19, 3) := by decide +kernel
theorem dX3_readFigure_35 : decode cX3_readFigure 35 = .ok (.baload, 1) := by decide +kernel
theorem dX3_readFigure_36 : decode cX3_readFigure 36 = .ok (.bipush 48, 2) := by decide +kernel
theorem dX3_readFigure_38 : decode cX3_readFigure 38 = .ok (.iload_n 2, 1) := by decide +kernel
theorem dX3_readFigure_39 : decode cX3_readFigure 39 = .ok (.iadd, 1) := by decide +kernel
theorem dX3_readFigure_40 : decode cX3_readFigure 40 = .ok (.if_icmp .le 5, 3) := by decide +kernel
theorem dX3_readFigure_43 : decode cX3_readFigure 43 = .ok (.iconst (-1), 1) := by decide +kernel
theorem dX3_readFigure_44 : decode cX3_readFigure 44 = .ok (.ireturn, 1) := by decide +kernel
theorem dX3_readFigure_45 : decode cX3_readFigure 45 = .ok (.aload_n 0, 1) := by decide +kernel
theorem dX3_readFigure_46 : decode cX3_readFigure 46 = .ok (.getfield 9, 3) := by decide +kernel
theorem dX3_readFigure_49 : decode cX3_readFigure 49 = .ok (.aload_n 0, 1) := by decide +kernel
theorem dX3_readFigure_50 : decode cX3_readFigure 50 = .ok (.getfield 19, 3) := by decide +kernel
theorem dX3_readFigure_53 : decode cX3_readFigure 53 = .ok (.baload, 1) := by decide +kernel
theorem dX3_readFigure_54 : decode cX3_readFigure 54 = .ok (.bipush 48, 2) := by decide +kernel
theorem dX3_readFigure_56 : decode cX3_readFigure 56 = .ok (.isub, 1) := by decide +kernel
theorem dX3_readFigure_57 : decode cX3_readFigure 57 = .ok (.istore_n 3, 1) := by decide +kernel
theorem dX3_readFigure_58 : decode cX3_readFigure 58 = .ok (.aload_n 0, 1) := by decide +kernel
theorem dX3_readFigure_59 : decode cX3_readFigure 59 = .ok (.dup, 1) := by decide +kernel
theorem dX3_readFigure_60 : decode cX3_readFigure 60 = .ok (.getfield 19, 3) := by decide +kernel
theorem dX3_readFigure_63 : decode cX3_readFigure 63 = .ok (.iconst 1, 1) := by decide +kernel
theorem dX3_readFigure_64 : decode cX3_readFigure 64 = .ok (.iadd, 1) := by decide +kernel
theorem dX3_readFigure_65 : decode cX3_readFigure 65 = .ok (.putfield 19, 3) := by decide +kernel
theorem dX3_readFigure_68 : decode cX3_readFigure 68 = .ok (.iload_n 3, 1) := by decide +kernel
theorem dX3_readFigure_69 : decode cX3_readFigure 69 = .ok (.ireturn, 1) := by decide +kernel
def j_X3_readFigure (F : Nat) (a1 : Int32) (a2 : Int32) (st : sw_St) : Option (Int32 × sw_St) :=
jn (
  some ((-1), st)) (fun k1 =>
 (if (st.1 52 1) ≤ (st.1 52 2) then (
  k1)
 else (
  grd (sw_kd st.2.2 = 7) (bnd (st.1 52 2) (sw_ln st.2.2) (
  (if (st.1 st.2.2 ((st.1 52 2) : Int32).toNatClampNeg) < (48 + a1) then (
   k1)
  else (
   grd (sw_kd st.2.2 = 7) (bnd (st.1 52 2) (sw_ln st.2.2) (
   (if (st.1 st.2.2 ((st.1 52 2) : Int32).toNatClampNeg) ≤ (48 + a2) then (
    grd (sw_kd st.2.2 = 7) (bnd (st.1 52 2) (sw_ln st.2.2) (
    nm ((st.1 st.2.2 ((st.1 52 2) : Int32).toNatClampNeg) - 48) (fun (x12 : Int32) =>
    nm (sw_setC st 52 2 ((st.1 52 2) + 1)) (fun (s13 : sw_St) =>
    some (x12, s13))))))
   else (
    k1)))))))))))
set_option maxHeartbeats 4000000 in
set_option maxRecDepth 100000 in
theorem c_X3_readFigure (F : Nat) (a1 : Int32) (a2 : Int32) (st : sw_St) {r : Int32} {st1 : sw_St} (h : j_X3_readFigure F a1 a2 st = some (r, st1)) : sw_CI yX3_readFigure (.code yX3_readFigure cX3_readFigure 4 (some .int)) 1 (fun g => [.ref (g.1 52), .int a1, .int a2]) st r st1 := by
  refine sw_entI RX3 (fun g => [(0, .ref (g.1 52)), (1, .int a1), (2, .int a2)]) (by decide) rfl (fun _ => Nat.le_of_ble_eq_true rfl) (fun _ => rfl) ?_
  intro p l e s m args below meth c g X hr hlk
  unfold j_X3_readFigure at h
  refine sw_aload_n X 0 rfl rfl dX3_readFigure_0 ?_
  refine sw_getI X sw_cl3 (show sw_kd 52 = 3 from rfl) (k := 2) rfl (by decide) wf_X3_19 dX3_readFigure_1 ?_
  refine sw_aload_n X 0 rfl rfl dX3_readFigure_4 ?_
  refine sw_getI X sw_cl3 (show sw_kd 52 = 3 from rfl) (k := 1) rfl (by decide) wf_X3_15 dX3_readFigure_5 ?_
  refine jn0_E (sw_V p l e 1 s m args below meth c g (sw_A g s.heap.size) (sw_QI below g args s r st1) 4 43 [] [] st) h (fun h => ?_) (fun k1 J2 h => ?_)
  · refine sw_iconst X (v := (-1)) (by decide) dX3_readFigure_43 ?_
    exact sw_iret X hr hlk dX3_readFigure_44 h
  · refine sw_icmp_ge X 43 (by decide) dX3_readFigure_8 (fun q3 => ?_) (fun q3 => ?_)
    · have h := ite_T h q3
      refine sw_sub [] rfl ?_
      exact J2  h
    · have h := ite_F h q3
      refine sw_aload_n X 0 rfl rfl dX3_readFigure_11 ?_
      refine sw_getR X sw_cl3 (show sw_kd 52 = 3 from rfl) (k := 0) rfl (by decide) (o1 := st.2.2) rfl wf_X3_9 dX3_readFigure_12 ?_
      refine sw_aload_n X 0 rfl rfl dX3_readFigure_15 ?_
      refine sw_getI X sw_cl3 (show sw_kd 52 = 3 from rfl) (k := 2) rfl (by decide) wf_X3_19 dX3_readFigure_16 ?_
      obtain ⟨q5, h⟩ := grd_E h
      obtain ⟨q4, h⟩ := bnd_E h
      refine sw_bald X q5 rfl q4 dX3_readFigure_19 ?_
      refine sw_bipush X (v := 48) (by decide) dX3_readFigure_20 ?_
      refine sw_iload_n X 1 rfl rfl dX3_readFigure_22 ?_
      refine sw_iadd X dX3_readFigure_23 ?_
      refine sw_icmp_lt X 43 (by decide) dX3_readFigure_24 (fun q6 => ?_) (fun q6 => ?_)
      · have h := ite_T h q6
        refine sw_sub [] rfl ?_
        exact J2  h
      · have h := ite_F h q6
        refine sw_aload_n X 0 rfl rfl dX3_readFigure_27 ?_
        refine sw_getR X sw_cl3 (show sw_kd 52 = 3 from rfl) (k := 0) rfl (by decide) (o1 := st.2.2) rfl wf_X3_9 dX3_readFigure_28 ?_
        refine sw_aload_n X 0 rfl rfl dX3_readFigure_31 ?_
        refine sw_getI X sw_cl3 (show sw_kd 52 = 3 from rfl) (k := 2) rfl (by decide) wf_X3_19 dX3_readFigure_32 ?_
        obtain ⟨q8, h⟩ := grd_E h
        obtain ⟨q7, h⟩ := bnd_E h
        refine sw_bald X q8 rfl q7 dX3_readFigure_35 ?_
        refine sw_bipush X (v := 48) (by decide) dX3_readFigure_36 ?_
        refine sw_iload_n X 2 rfl rfl dX3_readFigure_38 ?_
        refine sw_iadd X dX3_readFigure_39 ?_
        refine sw_icmp_le X 45 (by decide) dX3_readFigure_40 (fun q9 => ?_) (fun q9 => ?_)
        · have h := ite_T h q9
          refine sw_aload_n X 0 rfl rfl dX3_readFigure_45 ?_
          refine sw_getR X sw_cl3 (show sw_kd 52 = 3 from rfl) (k := 0) rfl (by decide) (o1 := st.2.2) rfl wf_X3_9 dX3_readFigure_46 ?_
          refine sw_aload_n X 0 rfl rfl dX3_readFigure_49 ?_
          refine sw_getI X sw_cl3 (show sw_kd 52 = 3 from rfl) (k := 2) rfl (by decide) wf_X3_19 dX3_readFigure_50 ?_
          obtain ⟨q11, h⟩ := grd_E h
          obtain ⟨q10, h⟩ := bnd_E h
          refine sw_bald X q11 rfl q10 dX3_readFigure_53 ?_
          refine sw_bipush X (v := 48) (by decide) dX3_readFigure_54 ?_
          refine sw_isub X dX3_readFigure_56 ?_
          refine sw_topi (fun x12 ex12 => ?_)
          have h := nm_E h ex12
          refine sw_istore_n X [(3, .int x12), (0, .ref (g.1 52)), (1, .int a1), (2, .int a2)] rfl (by decide) rfl dX3_readFigure_57 ?_
          refine sw_aload_n X 1 rfl rfl dX3_readFigure_58 ?_
          refine sw_dup X rfl dX3_readFigure_59 ?_
          refine sw_getI X sw_cl3 (show sw_kd 52 = 3 from rfl) (k := 2) rfl (by decide) wf_X3_19 dX3_readFigure_60 ?_
          refine sw_iconst X (v := 1) (by decide) dX3_readFigure_63 ?_
          refine sw_iadd X dX3_readFigure_64 ?_
          refine sw_putI X sw_cl3 (show sw_kd 52 = 3 from rfl) (k := 2) rfl (by decide) rfl rfl wf_X3_19 dX3_readFigure_65 (fun s13 es13 => ?_)
          have h := nm_E h es13
          refine sw_iload_n X 0 rfl rfl dX3_readFigure_68 ?_
          exact sw_iret X hr hlk dX3_readFigure_69 h
        · have h := ite_F h q9
          refine sw_sub [] rfl ?_
          exact J2  h
theorem dX3_readSpring_0 : decode cX3_readSpring 0 = .ok (.aload_n 0, 1) := by decide +kernel
theorem dX3_readSpring_1 : decode cX3_readSpring 1 = .ok (.getfield 19, 3) := by decide +kernel
theorem dX3_readSpring_4 : decode cX3_readSpring 4 = .ok (.aload_n 0, 1) := by decide +kernel
theorem dX3_readSpring_5 : decode cX3_readSpring 5 = .ok (.getfield 15, 3) := by decide +kernel
theorem dX3_readSpring_8 : decode cX3_readSpring 8 = .ok (.if_icmp .ge 17, 3) := by decide +kernel
theorem dX3_readSpring_11 : decode cX3_readSpring 11 = .ok (.aload_n 0, 1) := by decide +kernel
theorem dX3_readSpring_12 : decode cX3_readSpring 12 = .ok (.getfield 9, 3) := by decide +kernel
theorem dX3_readSpring_15 : decode cX3_readSpring 15 = .ok (.aload_n 0, 1) := by decide +kernel
theorem dX3_readSpring_16 : decode cX3_readSpring 16 = .ok (.getfield 19, 3) := by decide +kernel
theorem dX3_readSpring_19 : decode cX3_readSpring 19 = .ok (.baload, 1) := by decide +kernel
theorem dX3_readSpring_20 : decode cX3_readSpring 20 = .ok (.bipush 119, 2) := by decide +kernel
theorem dX3_readSpring_22 : decode cX3_readSpring 22 = .ok (.if_icmp .eq 5, 3) := by decide +kernel
theorem dX3_readSpring_25 : decode cX3_readSpring 25 = .ok (.iconst 0, 1) := by decide +kernel
theorem dX3_readSpring_26 : decode cX3_readSpring 26 = .ok (.ireturn, 1) := by decide +kernel
theorem dX3_readSpring_27 : decode cX3_readSpring 27 = .ok (.aload_n 0, 1) := by decide +kernel
theorem dX3_readSpring_28 : decode cX3_readSpring 28 = .ok (.dup, 1) := by decide +kernel
theorem dX3_readSpring_29 : decode cX3_readSpring 29 = .ok (.getfield 19, 3) := by decide +kernel
theorem dX3_readSpring_32 : decode cX3_readSpring 32 = .ok (.iconst 1, 1) := by decide +kernel
theorem dX3_readSpring_33 : decode cX3_readSpring 33 = .ok (.iadd, 1) := by decide +kernel
theorem dX3_readSpring_34 : decode cX3_readSpring 34 = .ok (.putfield 19, 3) := by decide +kernel
theorem dX3_readSpring_37 : decode cX3_readSpring 37 = .ok (.aload_n 0, 1) := by decide +kernel
theorem dX3_readSpring_38 : decode cX3_readSpring 38 = .ok (.getfield 19, 3) := by decide +kernel
theorem dX3_readSpring_41 : decode cX3_readSpring 41 = .ok (.istore_n 2, 1) := by decide +kernel
theorem dX3_readSpring_42 : decode cX3_readSpring 42 = .ok (.aload_n 0, 1) := by decide +kernel
theorem dX3_readSpring_43 : decode cX3_readSpring 43 = .ok (.iconst 0, 1) := by decide +kernel
theorem dX3_readSpring_44 : decode cX3_readSpring 44 = .ok (.bipush 9, 2) := by decide +kernel
theorem dX3_readSpring_46 : decode cX3_readSpring 46 = .ok (.invokevirtual 36, 3) := by decide +kernel
theorem dX3_readSpring_49 : decode cX3_readSpring 49 = .ok (.istore_n 3, 1) := by decide +kernel
theorem dX3_readSpring_50 : decode cX3_readSpring 50 = .ok (.iload_n 3, 1) := by decide +kernel
theorem dX3_readSpring_51 : decode cX3_readSpring 51 = .ok (.ifCond .ge 7, 3) := by decide +kernel
theorem dX3_readSpring_54 : decode cX3_readSpring 54 = .ok (.iconst (-1), 1) := by decide +kernel
theorem dX3_readSpring_55 : decode cX3_readSpring 55 = .ok (.goto 10, 3) := by decide +kernel
theorem dX3_readSpring_58 : decode cX3_readSpring 58 = .ok (.aload_n 0, 1) := by decide +kernel
theorem dX3_readSpring_59 : decode cX3_readSpring 59 = .ok (.iconst 0, 1) := by decide +kernel
theorem dX3_readSpring_60 : decode cX3_readSpring 60 = .ok (.bipush 9, 2) := by decide +kernel
theorem dX3_readSpring_62 : decode cX3_readSpring 62 = .ok (.invokevirtual 36, 3) := by decide +kernel
theorem dX3_readSpring_65 : decode cX3_readSpring 65 = .ok (.istore 4, 2) := by decide +kernel
theorem dX3_readSpring_67 : decode cX3_readSpring 67 = .ok (.iload 4, 2) := by decide +kernel
theorem dX3_readSpring_69 : decode cX3_readSpring 69 = .ok (.ifCond .ge 5, 3) := by decide +kernel
theorem dX3_readSpring_72 : decode cX3_readSpring 72 = .ok (.iconst 0, 1) := by decide +kernel
theorem dX3_readSpring_73 : decode cX3_readSpring 73 = .ok (.ireturn, 1) := by decide +kernel
theorem dX3_readSpring_74 : decode cX3_readSpring 74 = .ok (.bipush 10, 2) := by decide +kernel
theorem dX3_readSpring_76 : decode cX3_readSpring 76 = .ok (.iload_n 3, 1) := by decide +kernel
theorem dX3_readSpring_77 : decode cX3_readSpring 77 = .ok (.imul, 1) := by decide +kernel
theorem dX3_readSpring_78 : decode cX3_readSpring 78 = .ok (.iload 4, 2) := by decide +kernel
theorem dX3_readSpring_80 : decode cX3_readSpring 80 = .ok (.iadd, 1) := by decide +kernel
theorem dX3_readSpring_81 : decode cX3_readSpring 81 = .ok (.bipush 60, 2) := by decide +kernel
theorem dX3_readSpring_83 : decode cX3_readSpring 83 = .ok (.if_icmp .le 10, 3) := by decide +kernel
theorem dX3_readSpring_86 : decode cX3_readSpring 86 = .ok (.aload_n 0, 1) := by decide +kernel
theorem dX3_readSpring_87 : decode cX3_readSpring 87 = .ok (.iload_n 2, 1) := by decide +kernel
theorem dX3_readSpring_88 : decode cX3_readSpring 88 = .ok (.putfield 19, 3) := by decide +kernel
theorem dX3_readSpring_91 : decode cX3_readSpring 91 = .ok (.iconst 0, 1) := by decide +kernel
theorem dX3_readSpring_92 : decode cX3_readSpring 92 = .ok (.ireturn, 1) := by decide +kernel
theorem dX3_readSpring_93 : decode cX3_readSpring 93 = .ok (.aload_n 1, 1) := by decide +kernel
theorem dX3_readSpring_94 : decode cX3_readSpring 94 = .ok (.bipush 10, 2) := by decide +kernel
theorem dX3_readSpring_96 : decode cX3_readSpring 96 = .ok (.iload_n 3, 1) := by decide +kernel
theorem dX3_readSpring_97 : decode cX3_readSpring 97 = .ok (.imul, 1) := by decide +kernel
theorem dX3_readSpring_98 : decode cX3_readSpring 98 = .ok (.iload 4, 2) := by decide +kernel
theorem dX3_readSpring_100 : decode cX3_readSpring 100 = .ok (.iadd, 1) := by decide +kernel
theorem dX3_readSpring_101 : decode cX3_readSpring 101 = .ok (.putfield 40, 3) := by decide +kernel
theorem dX3_readSpring_104 : decode cX3_readSpring 104 = .ok (.aload_n 1, 1) := by decide +kernel
theorem dX3_readSpring_105 : decode cX3_readSpring 105 = .ok (.aload_n 0, 1) := by decide +kernel
theorem dX3_readSpring_106 : decode cX3_readSpring 106 = .ok (.iconst 0, 1) := by decide +kernel
theorem dX3_readSpring_107 : decode cX3_readSpring 107 = .ok (.iconst 3, 1) := by decide +kernel
theorem dX3_readSpring_108 : decode cX3_readSpring 108 = .ok (.invokevirtual 36, 3) := by decide +kernel
theorem dX3_readSpring_111 : decode cX3_readSpring 111 = .ok (.putfield 43, 3) := by decide +kernel
theorem dX3_readSpring_114 : decode cX3_readSpring 114 = .ok (.aload_n 1, 1) := by decide +kernel
theorem dX3_readSpring_115 : decode cX3_readSpring 115 = .ok (.getfield 43, 3) := by decide +kernel
theorem dX3_readSpring_118 : decode cX3_readSpring 118 = .ok (.ifCond .lt 7, 3) := by decide +kernel
theorem dX3_readSpring_121 : decode cX3_readSpring 121 = .ok (.iconst 1, 1) := by decide +kernel
theorem dX3_readSpring_122 : decode cX3_readSpring 122 = .ok (.goto 4, 3) := by decide +kernel
theorem dX3_readSpring_125 : decode cX3_readSpring 125 = .ok (.iconst 0, 1) := by decide +kernel
theorem dX3_readSpring_126 : decode cX3_readSpring 126 = .ok (.ireturn, 1) := by decide +kernel
def j_X3_readSpring (F : Nat) (st : sw_St) : Option (Int32 × sw_St) :=
jn (
  some (0, st)) (fun k1 =>
 (if (st.1 52 1) ≤ (st.1 52 2) then (
  k1)
 else (
  grd (sw_kd st.2.2 = 7) (bnd (st.1 52 2) (sw_ln st.2.2) (
  (if (st.1 st.2.2 ((st.1 52 2) : Int32).toNatClampNeg) = 119 then (
   nm (sw_setC st 52 2 ((st.1 52 2) + 1)) (fun (s7 : sw_St) =>
   nm (s7.1 52 2) (fun (x8 : Int32) =>
   bd (j_X3_readFigure F 0 9 s7) (fun (r10 : Int32) (s11 : sw_St) =>
   jn (fun (x12 : Int32) (s13 : sw_St) => 
     (if 0 ≤ x12 then (
      (if ((10 * r10) + x12) ≤ 60 then (
       nm (sw_setC s13 22 5 ((10 * r10) + x12)) (fun (s18 : sw_St) =>
       bd (j_X3_readFigure F 0 3 s18) (fun (r20 : Int32) (s21 : sw_St) =>
       nm (sw_setC s21 22 6 r20) (fun (s22 : sw_St) =>
       jn (fun (x23 : Int32) => 
         grd (x23 = 0 ∨ x23 = 1) (some (x23, s22))) (fun k24 =>
        (if (s22.1 22 6) < 0 then (
         k24 0)
        else (
         k24 1)))))))
      else (
       nm (sw_setC s13 52 2 x8) (fun (s28 : sw_St) =>
       some (0, s28)))))
     else (
      some (0, s13)))) (fun k14 =>
    (if 0 ≤ r10 then (
     bd (j_X3_readFigure F 0 9 s11) (fun (r31 : Int32) (s32 : sw_St) =>
     k14 r31 s32))
    else (
     k14 (-1) s11)))))))
  else (
   k1)))))))
set_option maxHeartbeats 4000000 in
set_option maxRecDepth 100000 in
theorem c_X3_readSpring (F : Nat) (st : sw_St) {r : Int32} {st1 : sw_St} (h : j_X3_readSpring F  st = some (r, st1)) : sw_CI yX3_readSpring (.code yX3_readSpring cX3_readSpring 5 (some .boolean)) 2 (fun g => [.ref (g.1 52), .ref (g.1 22)]) st r st1 := by
  refine sw_entI RX3 (fun g => [(0, .ref (g.1 52)), (1, .ref (g.1 22))]) (by decide) rfl (fun _ => Nat.le_of_ble_eq_true rfl) (fun _ => rfl) ?_
  intro p l e s m args below meth c g X hr hlk
  unfold j_X3_readSpring at h
  refine sw_aload_n X 0 rfl rfl dX3_readSpring_0 ?_
  refine sw_getI X sw_cl3 (show sw_kd 52 = 3 from rfl) (k := 2) rfl (by decide) wf_X3_19 dX3_readSpring_1 ?_
  refine sw_aload_n X 0 rfl rfl dX3_readSpring_4 ?_
  refine sw_getI X sw_cl3 (show sw_kd 52 = 3 from rfl) (k := 1) rfl (by decide) wf_X3_15 dX3_readSpring_5 ?_
  refine jn0_E (sw_V p l e 2 s m args below meth c g (sw_A g s.heap.size) (sw_QI below g args s r st1) 5 25 [] [] st) h (fun h => ?_) (fun k1 J2 h => ?_)
  · refine sw_iconst X (v := 0) (by decide) dX3_readSpring_25 ?_
    exact sw_zret X hr hlk (Or.inl rfl) dX3_readSpring_26 h
  · refine sw_icmp_ge X 25 (by decide) dX3_readSpring_8 (fun q3 => ?_) (fun q3 => ?_)
    · have h := ite_T h q3
      refine sw_sub [] rfl ?_
      exact J2  h
    · have h := ite_F h q3
      refine sw_aload_n X 0 rfl rfl dX3_readSpring_11 ?_
      refine sw_getR X sw_cl3 (show sw_kd 52 = 3 from rfl) (k := 0) rfl (by decide) (o1 := st.2.2) rfl wf_X3_9 dX3_readSpring_12 ?_
      refine sw_aload_n X 0 rfl rfl dX3_readSpring_15 ?_
      refine sw_getI X sw_cl3 (show sw_kd 52 = 3 from rfl) (k := 2) rfl (by decide) wf_X3_19 dX3_readSpring_16 ?_
      obtain ⟨q5, h⟩ := grd_E h
      obtain ⟨q4, h⟩ := bnd_E h
      refine sw_bald X q5 rfl q4 dX3_readSpring_19 ?_
      refine sw_bipush X (v := 119) (by decide) dX3_readSpring_20 ?_
      refine sw_icmp_eq X 27 (by decide) dX3_readSpring_22 (fun q6 => ?_) (fun q6 => ?_)
      · have h := ite_T h q6
        refine sw_aload_n X 0 rfl rfl dX3_readSpring_27 ?_
        refine sw_dup X rfl dX3_readSpring_28 ?_
        refine sw_getI X sw_cl3 (show sw_kd 52 = 3 from rfl) (k := 2) rfl (by decide) wf_X3_19 dX3_readSpring_29 ?_
        refine sw_iconst X (v := 1) (by decide) dX3_readSpring_32 ?_
        refine sw_iadd X dX3_readSpring_33 ?_
        refine sw_putI X sw_cl3 (show sw_kd 52 = 3 from rfl) (k := 2) rfl (by decide) rfl rfl wf_X3_19 dX3_readSpring_34 (fun s7 es7 => ?_)
        have h := nm_E h es7
        refine sw_aload_n X 0 rfl rfl dX3_readSpring_37 ?_
        refine sw_getI X sw_cl3 (show sw_kd 52 = 3 from rfl) (k := 2) rfl (by decide) wf_X3_19 dX3_readSpring_38 ?_
        refine sw_topi (fun x8 ex8 => ?_)
        have h := nm_E h ex8
        refine sw_istore_n X [(2, .int x8), (0, .ref (g.1 52)), (1, .ref (g.1 22))] rfl (by decide) rfl dX3_readSpring_41 ?_
        refine sw_aload_n X 1 rfl rfl dX3_readSpring_42 ?_
        refine sw_iconst X (v := 0) (by decide) dX3_readSpring_43 ?_
        refine sw_bipush X (v := 9) (by decide) dX3_readSpring_44 ?_
        obtain ⟨r10, s11, c9, h⟩ := bd_E h
        refine sw_callVI X (o := 52) (As := (fun g => [.int 0, .int 9])) sw_cl3 (show sw_kd 52 = 3 from rfl) ws_X3_readFigure (by omega) (c_X3_readFigure F 0 9 s7 c9) rfl rfl (Nat.le_of_ble_eq_true rfl) wm_X3_36 dX3_readSpring_46 ?_
        refine sw_istore_n X [(3, .int r10), (2, .int x8), (0, .ref (g.1 52)), (1, .ref (g.1 22))] rfl (by decide) rfl dX3_readSpring_49 ?_
        refine sw_iload_n X 0 rfl rfl dX3_readSpring_50 ?_
        refine jn2_E (fun (x12 : Int32) (s13 : sw_St) => sw_V p l e 2 s m args below meth c g (sw_A g s.heap.size) (sw_QI below g args s r st1) 5 65 [(0, .ref (g.1 52)), (1, .ref (g.1 22)), (2, .int x8), (3, .int r10)] [.int x12] s13) h (fun x12 s13 h => ?_) (fun k14 J15 h => ?_)
        · refine sw_istore X [(4, .int x12), (0, .ref (g.1 52)), (1, .ref (g.1 22)), (2, .int x8), (3, .int r10)] (by decide) rfl dX3_readSpring_65 ?_
          refine sw_iload X 0 rfl dX3_readSpring_67 ?_
          refine sw_if_ge X 74 (by decide) dX3_readSpring_69 (fun q16 => ?_) (fun q16 => ?_)
          · have h := ite_T h q16
            refine sw_bipush X (v := 10) (by decide) dX3_readSpring_74 ?_
            refine sw_iload_n X 4 rfl rfl dX3_readSpring_76 ?_
            refine sw_imul X dX3_readSpring_77 ?_
            refine sw_iload X 0 rfl dX3_readSpring_78 ?_
            refine sw_iadd X dX3_readSpring_80 ?_
            refine sw_bipush X (v := 60) (by decide) dX3_readSpring_81 ?_
            refine sw_icmp_le X 93 (by decide) dX3_readSpring_83 (fun q17 => ?_) (fun q17 => ?_)
            · have h := ite_T h q17
              refine sw_aload_n X 2 rfl rfl dX3_readSpring_93 ?_
              refine sw_bipush X (v := 10) (by decide) dX3_readSpring_94 ?_
              refine sw_iload_n X 4 rfl rfl dX3_readSpring_96 ?_
              refine sw_imul X dX3_readSpring_97 ?_
              refine sw_iload X 0 rfl dX3_readSpring_98 ?_
              refine sw_iadd X dX3_readSpring_100 ?_
              refine sw_putI X sw_cl4 (show sw_kd 22 = 4 from rfl) (k := 5) rfl (by decide) rfl rfl wf_X3_40 dX3_readSpring_101 (fun s18 es18 => ?_)
              have h := nm_E h es18
              refine sw_aload_n X 2 rfl rfl dX3_readSpring_104 ?_
              refine sw_aload_n X 1 rfl rfl dX3_readSpring_105 ?_
              refine sw_iconst X (v := 0) (by decide) dX3_readSpring_106 ?_
              refine sw_iconst X (v := 3) (by decide) dX3_readSpring_107 ?_
              obtain ⟨r20, s21, c19, h⟩ := bd_E h
              refine sw_callVI X (o := 52) (As := (fun g => [.int 0, .int 3])) sw_cl3 (show sw_kd 52 = 3 from rfl) ws_X3_readFigure (by omega) (c_X3_readFigure F 0 3 s18 c19) rfl rfl (Nat.le_of_ble_eq_true rfl) wm_X3_36 dX3_readSpring_108 ?_
              refine sw_putI X sw_cl4 (show sw_kd 22 = 4 from rfl) (k := 6) rfl (by decide) rfl rfl wf_X3_43 dX3_readSpring_111 (fun s22 es22 => ?_)
              have h := nm_E h es22
              refine sw_aload_n X 2 rfl rfl dX3_readSpring_114 ?_
              refine sw_getI X sw_cl4 (show sw_kd 22 = 4 from rfl) (k := 6) rfl (by decide) wf_X3_43 dX3_readSpring_115 ?_
              refine jn1_E (fun (x23 : Int32) => sw_V p l e 2 s m args below meth c g (sw_A g s.heap.size) (sw_QI below g args s r st1) 5 126 [] [.int x23] s22) h (fun x23 h => ?_) (fun k24 J25 h => ?_)
              · obtain ⟨q26, h⟩ := grd_E h
                exact sw_zret X hr hlk q26 dX3_readSpring_126 h
              · refine sw_if_lt X 125 (by decide) dX3_readSpring_118 (fun q27 => ?_) (fun q27 => ?_)
                · have h := ite_T h q27
                  refine sw_iconst X (v := 0) (by decide) dX3_readSpring_125 ?_
                  refine sw_sub [] rfl ?_
                  exact J25 _ h
                · have h := ite_F h q27
                  refine sw_iconst X (v := 1) (by decide) dX3_readSpring_121 ?_
                  refine sw_goto X 126 (by decide) dX3_readSpring_122 ?_
                  refine sw_sub [] rfl ?_
                  exact J25 _ h
            · have h := ite_F h q17
              refine sw_aload_n X 1 rfl rfl dX3_readSpring_86 ?_
              refine sw_iload_n X 3 rfl rfl dX3_readSpring_87 ?_
              refine sw_putI X sw_cl3 (show sw_kd 52 = 3 from rfl) (k := 2) rfl (by decide) rfl rfl wf_X3_19 dX3_readSpring_88 (fun s28 es28 => ?_)
              have h := nm_E h es28
              refine sw_iconst X (v := 0) (by decide) dX3_readSpring_91 ?_
              exact sw_zret X hr hlk (Or.inl rfl) dX3_readSpring_92 h
          · have h := ite_F h q16
            refine sw_iconst X (v := 0) (by decide) dX3_readSpring_72 ?_
            exact sw_zret X hr hlk (Or.inl rfl) dX3_readSpring_73 h
        · refine sw_if_ge X 58 (by decide) dX3_readSpring_51 (fun q29 => ?_) (fun q29 => ?_)
          · have h := ite_T h q29
            refine sw_aload_n X 2 rfl rfl dX3_readSpring_58 ?_
            refine sw_iconst X (v := 0) (by decide) dX3_readSpring_59 ?_
            refine sw_bipush X (v := 9) (by decide) dX3_readSpring_60 ?_
            obtain ⟨r31, s32, c30, h⟩ := bd_E h
            refine sw_callVI X (o := 52) (As := (fun g => [.int 0, .int 9])) sw_cl3 (show sw_kd 52 = 3 from rfl) ws_X3_readFigure (by omega) (c_X3_readFigure F 0 9 s11 c30) rfl rfl (Nat.le_of_ble_eq_true rfl) wm_X3_36 dX3_readSpring_62 ?_
            refine sw_sub [2, 3, 1, 0] rfl ?_
            exact J15 _ _ h
          · have h := ite_F h q29
            refine sw_iconst X (v := (-1)) (by decide) dX3_readSpring_54 ?_
            refine sw_goto X 65 (by decide) dX3_readSpring_55 ?_
            refine sw_sub [2, 3, 1, 0] rfl ?_
            exact J15 _ _ h
      · have h := ite_F h q6
        refine sw_sub [] rfl ?_
        exact J2  h
end
section
theorem dX3_kindOf_0 : decode cX3_kindOf 0 = .ok (.iload_n 0, 1) := by decide +kernel
theorem dX3_kindOf_1 : decode cX3_kindOf 1 = .ok (.tableswitch 103 98 116 #[101, 95, 103, 103, 103, 103, 103, 103, 103, 103, 103, 99, 103, 103, 97, 103, 103, 91, 93], 91) := by decide +kernel
theorem dX3_kindOf_92 : decode cX3_kindOf 92 = .ok (.iconst 0, 1) := by decide +kernel
theorem dX3_kindOf_93 : decode cX3_kindOf 93 = .ok (.ireturn, 1) := by decide +kernel
theorem dX3_kindOf_94 : decode cX3_kindOf 94 = .ok (.iconst 1, 1) := by decide +kernel
theorem dX3_kindOf_95 : decode cX3_kindOf 95 = .ok (.ireturn, 1) := by decide +kernel
theorem dX3_kindOf_96 : decode cX3_kindOf 96 = .ok (.iconst 2, 1) := by decide +kernel
theorem dX3_kindOf_97 : decode cX3_kindOf 97 = .ok (.ireturn, 1) := by decide +kernel
theorem dX3_kindOf_98 : decode cX3_kindOf 98 = .ok (.iconst 3, 1) := by decide +kernel
theorem dX3_kindOf_99 : decode cX3_kindOf 99 = .ok (.ireturn, 1) := by decide +kernel
theorem dX3_kindOf_100 : decode cX3_kindOf 100 = .ok (.iconst 4, 1) := by decide +kernel
theorem dX3_kindOf_101 : decode cX3_kindOf 101 = .ok (.ireturn, 1) := by decide +kernel
theorem dX3_kindOf_102 : decode cX3_kindOf 102 = .ok (.iconst 5, 1) := by decide +kernel
theorem dX3_kindOf_103 : decode cX3_kindOf 103 = .ok (.ireturn, 1) := by decide +kernel
theorem dX3_kindOf_104 : decode cX3_kindOf 104 = .ok (.iconst (-1), 1) := by decide +kernel
theorem dX3_kindOf_105 : decode cX3_kindOf 105 = .ok (.ireturn, 1) := by decide +kernel
def j_X3_kindOf (F : Nat) (a1 : Int32) (st : sw_St) : Option Int32 :=
(if a1 = 98 then (
 some 5)
else (
 (if a1 = 99 then (
  some 2)
 else (
  (if a1 = 100 then (
   some (-1))
  else (
   (if a1 = 101 then (
    some (-1))
   else (
    (if a1 = 102 then (
     some (-1))
    else (
     (if a1 = 103 then (
      some (-1))
     else (
      (if a1 = 104 then (
       some (-1))
      else (
       (if a1 = 105 then (
        some (-1))
       else (
        (if a1 = 106 then (
         some (-1))
        else (
         (if a1 = 107 then (
          some (-1))
         else (
          (if a1 = 108 then (
           some (-1))
          else (
           (if a1 = 109 then (
            some 4)
           else (
            (if a1 = 110 then (
             some (-1))
            else (
             (if a1 = 111 then (
              some (-1))
             else (
              (if a1 = 112 then (
               some 3)
              else (
               (if a1 = 113 then (
                some (-1))
               else (
                (if a1 = 114 then (
                 some (-1))
                else (
                 (if a1 = 115 then (
                  some 0)
                 else (
                  (if a1 = 116 then (
                   some 1)
                  else (
                   some (-1)))))))))))))))))))))))))))))))))))))))
set_option maxHeartbeats 4000000 in
set_option maxRecDepth 100000 in
theorem c_X3_kindOf (F : Nat) (a1 : Int32) (st : sw_St) {r : Int32} (h : j_X3_kindOf F a1 st = some r) : sw_CI yX3_kindOf (.code yX3_kindOf cX3_kindOf 1 (some .int)) 1 (fun g => [.int a1]) st r st := by
  refine sw_entI RX3 (fun g => [(0, .int a1)]) (by decide) rfl (fun _ => Nat.le_of_ble_eq_true rfl) (fun _ => rfl) ?_
  intro p l e s m args below meth c g X hr hlk
  unfold j_X3_kindOf at h
  refine sw_iload_n X 0 rfl rfl dX3_kindOf_0 ?_
  by_cases q1 : a1 = 98
  · have h := ite_T h q1
    refine sw_tabIn X (k := 98) (off := 101) 102 q1 (by decide) (by decide) (by decide) (by decide) dX3_kindOf_1 ?_
    refine sw_iconst X (v := 5) (by decide) dX3_kindOf_102 ?_
    exact sw_iret X hr hlk dX3_kindOf_103 (by cases h; rfl)
  · have h := ite_F h q1
    by_cases q2 : a1 = 99
    · have h := ite_T h q2
      refine sw_tabIn X (k := 99) (off := 95) 96 q2 (by decide) (by decide) (by decide) (by decide) dX3_kindOf_1 ?_
      refine sw_iconst X (v := 2) (by decide) dX3_kindOf_96 ?_
      exact sw_iret X hr hlk dX3_kindOf_97 (by cases h; rfl)
    · have h := ite_F h q2
      by_cases q3 : a1 = 100
      · have h := ite_T h q3
        refine sw_tabIn X (k := 100) (off := 103) 104 q3 (by decide) (by decide) (by decide) (by decide) dX3_kindOf_1 ?_
        refine sw_iconst X (v := (-1)) (by decide) dX3_kindOf_104 ?_
        exact sw_iret X hr hlk dX3_kindOf_105 (by cases h; rfl)
      · have h := ite_F h q3
        by_cases q4 : a1 = 101
        · have h := ite_T h q4
          refine sw_tabIn X (k := 101) (off := 103) 104 q4 (by decide) (by decide) (by decide) (by decide) dX3_kindOf_1 ?_
          refine sw_iconst X (v := (-1)) (by decide) dX3_kindOf_104 ?_
          exact sw_iret X hr hlk dX3_kindOf_105 (by cases h; rfl)
        · have h := ite_F h q4
          by_cases q5 : a1 = 102
          · have h := ite_T h q5
            refine sw_tabIn X (k := 102) (off := 103) 104 q5 (by decide) (by decide) (by decide) (by decide) dX3_kindOf_1 ?_
            refine sw_iconst X (v := (-1)) (by decide) dX3_kindOf_104 ?_
            exact sw_iret X hr hlk dX3_kindOf_105 (by cases h; rfl)
          · have h := ite_F h q5
            by_cases q6 : a1 = 103
            · have h := ite_T h q6
              refine sw_tabIn X (k := 103) (off := 103) 104 q6 (by decide) (by decide) (by decide) (by decide) dX3_kindOf_1 ?_
              refine sw_iconst X (v := (-1)) (by decide) dX3_kindOf_104 ?_
              exact sw_iret X hr hlk dX3_kindOf_105 (by cases h; rfl)
            · have h := ite_F h q6
              by_cases q7 : a1 = 104
              · have h := ite_T h q7
                refine sw_tabIn X (k := 104) (off := 103) 104 q7 (by decide) (by decide) (by decide) (by decide) dX3_kindOf_1 ?_
                refine sw_iconst X (v := (-1)) (by decide) dX3_kindOf_104 ?_
                exact sw_iret X hr hlk dX3_kindOf_105 (by cases h; rfl)
              · have h := ite_F h q7
                by_cases q8 : a1 = 105
                · have h := ite_T h q8
                  refine sw_tabIn X (k := 105) (off := 103) 104 q8 (by decide) (by decide) (by decide) (by decide) dX3_kindOf_1 ?_
                  refine sw_iconst X (v := (-1)) (by decide) dX3_kindOf_104 ?_
                  exact sw_iret X hr hlk dX3_kindOf_105 (by cases h; rfl)
                · have h := ite_F h q8
                  by_cases q9 : a1 = 106
                  · have h := ite_T h q9
                    refine sw_tabIn X (k := 106) (off := 103) 104 q9 (by decide) (by decide) (by decide) (by decide) dX3_kindOf_1 ?_
                    refine sw_iconst X (v := (-1)) (by decide) dX3_kindOf_104 ?_
                    exact sw_iret X hr hlk dX3_kindOf_105 (by cases h; rfl)
                  · have h := ite_F h q9
                    by_cases q10 : a1 = 107
                    · have h := ite_T h q10
                      refine sw_tabIn X (k := 107) (off := 103) 104 q10 (by decide) (by decide) (by decide) (by decide) dX3_kindOf_1 ?_
                      refine sw_iconst X (v := (-1)) (by decide) dX3_kindOf_104 ?_
                      exact sw_iret X hr hlk dX3_kindOf_105 (by cases h; rfl)
                    · have h := ite_F h q10
                      by_cases q11 : a1 = 108
                      · have h := ite_T h q11
                        refine sw_tabIn X (k := 108) (off := 103) 104 q11 (by decide) (by decide) (by decide) (by decide) dX3_kindOf_1 ?_
                        refine sw_iconst X (v := (-1)) (by decide) dX3_kindOf_104 ?_
                        exact sw_iret X hr hlk dX3_kindOf_105 (by cases h; rfl)
                      · have h := ite_F h q11
                        by_cases q12 : a1 = 109
                        · have h := ite_T h q12
                          refine sw_tabIn X (k := 109) (off := 99) 100 q12 (by decide) (by decide) (by decide) (by decide) dX3_kindOf_1 ?_
                          refine sw_iconst X (v := 4) (by decide) dX3_kindOf_100 ?_
                          exact sw_iret X hr hlk dX3_kindOf_101 (by cases h; rfl)
                        · have h := ite_F h q12
                          by_cases q13 : a1 = 110
                          · have h := ite_T h q13
                            refine sw_tabIn X (k := 110) (off := 103) 104 q13 (by decide) (by decide) (by decide) (by decide) dX3_kindOf_1 ?_
                            refine sw_iconst X (v := (-1)) (by decide) dX3_kindOf_104 ?_
                            exact sw_iret X hr hlk dX3_kindOf_105 (by cases h; rfl)
                          · have h := ite_F h q13
                            by_cases q14 : a1 = 111
                            · have h := ite_T h q14
                              refine sw_tabIn X (k := 111) (off := 103) 104 q14 (by decide) (by decide) (by decide) (by decide) dX3_kindOf_1 ?_
                              refine sw_iconst X (v := (-1)) (by decide) dX3_kindOf_104 ?_
                              exact sw_iret X hr hlk dX3_kindOf_105 (by cases h; rfl)
                            · have h := ite_F h q14
                              by_cases q15 : a1 = 112
                              · have h := ite_T h q15
                                refine sw_tabIn X (k := 112) (off := 97) 98 q15 (by decide) (by decide) (by decide) (by decide) dX3_kindOf_1 ?_
                                refine sw_iconst X (v := 3) (by decide) dX3_kindOf_98 ?_
                                exact sw_iret X hr hlk dX3_kindOf_99 (by cases h; rfl)
                              · have h := ite_F h q15
                                by_cases q16 : a1 = 113
                                · have h := ite_T h q16
                                  refine sw_tabIn X (k := 113) (off := 103) 104 q16 (by decide) (by decide) (by decide) (by decide) dX3_kindOf_1 ?_
                                  refine sw_iconst X (v := (-1)) (by decide) dX3_kindOf_104 ?_
                                  exact sw_iret X hr hlk dX3_kindOf_105 (by cases h; rfl)
                                · have h := ite_F h q16
                                  by_cases q17 : a1 = 114
                                  · have h := ite_T h q17
                                    refine sw_tabIn X (k := 114) (off := 103) 104 q17 (by decide) (by decide) (by decide) (by decide) dX3_kindOf_1 ?_
                                    refine sw_iconst X (v := (-1)) (by decide) dX3_kindOf_104 ?_
                                    exact sw_iret X hr hlk dX3_kindOf_105 (by cases h; rfl)
                                  · have h := ite_F h q17
                                    by_cases q18 : a1 = 115
                                    · have h := ite_T h q18
                                      refine sw_tabIn X (k := 115) (off := 91) 92 q18 (by decide) (by decide) (by decide) (by decide) dX3_kindOf_1 ?_
                                      refine sw_iconst X (v := 0) (by decide) dX3_kindOf_92 ?_
                                      exact sw_iret X hr hlk dX3_kindOf_93 (by cases h; rfl)
                                    · have h := ite_F h q18
                                      by_cases q19 : a1 = 116
                                      · have h := ite_T h q19
                                        refine sw_tabIn X (k := 116) (off := 93) 94 q19 (by decide) (by decide) (by decide) (by decide) dX3_kindOf_1 ?_
                                        refine sw_iconst X (v := 1) (by decide) dX3_kindOf_94 ?_
                                        exact sw_iret X hr hlk dX3_kindOf_95 (by cases h; rfl)
                                      · have h := ite_F h q19
                                        have n0 := lv_neT q1 (show (98 : Int32).toInt = 98 by decide)
                                        have n1 := lv_neT q2 (show (99 : Int32).toInt = 99 by decide)
                                        have n2 := lv_neT q3 (show (100 : Int32).toInt = 100 by decide)
                                        have n3 := lv_neT q4 (show (101 : Int32).toInt = 101 by decide)
                                        have n4 := lv_neT q5 (show (102 : Int32).toInt = 102 by decide)
                                        have n5 := lv_neT q6 (show (103 : Int32).toInt = 103 by decide)
                                        have n6 := lv_neT q7 (show (104 : Int32).toInt = 104 by decide)
                                        have n7 := lv_neT q8 (show (105 : Int32).toInt = 105 by decide)
                                        have n8 := lv_neT q9 (show (106 : Int32).toInt = 106 by decide)
                                        have n9 := lv_neT q10 (show (107 : Int32).toInt = 107 by decide)
                                        have n10 := lv_neT q11 (show (108 : Int32).toInt = 108 by decide)
                                        have n11 := lv_neT q12 (show (109 : Int32).toInt = 109 by decide)
                                        have n12 := lv_neT q13 (show (110 : Int32).toInt = 110 by decide)
                                        have n13 := lv_neT q14 (show (111 : Int32).toInt = 111 by decide)
                                        have n14 := lv_neT q15 (show (112 : Int32).toInt = 112 by decide)
                                        have n15 := lv_neT q16 (show (113 : Int32).toInt = 113 by decide)
                                        have n16 := lv_neT q17 (show (114 : Int32).toInt = 114 by decide)
                                        have n17 := lv_neT q18 (show (115 : Int32).toInt = 115 by decide)
                                        have n18 := lv_neT q19 (show (116 : Int32).toInt = 116 by decide)
                                        refine sw_tabOut X 104 (by omega) (by decide) dX3_kindOf_1 ?_
                                        refine sw_iconst X (v := (-1)) (by decide) dX3_kindOf_104 ?_
                                        exact sw_iret X hr hlk dX3_kindOf_105 (by cases h; rfl)
theorem dX3_readKind_0 : decode cX3_readKind 0 = .ok (.aload_n 0, 1) := by decide +kernel
theorem dX3_readKind_1 : decode cX3_readKind 1 = .ok (.getfield 19, 3) := by decide +kernel
theorem dX3_readKind_4 : decode cX3_readKind 4 = .ok (.aload_n 0, 1) := by decide +kernel
theorem dX3_readKind_5 : decode cX3_readKind 5 = .ok (.getfield 15, 3) := by decide +kernel
theorem dX3_readKind_8 : decode cX3_readKind 8 = .ok (.if_icmp .lt 5, 3) := by decide +kernel
theorem dX3_readKind_11 : decode cX3_readKind 11 = .ok (.iconst (-1), 1) := by decide +kernel
theorem dX3_readKind_12 : decode cX3_readKind 12 = .ok (.ireturn, 1) := by decide +kernel
theorem dX3_readKind_13 : decode cX3_readKind 13 = .ok (.aload_n 0, 1) := by decide +kernel
theorem dX3_readKind_14 : decode cX3_readKind 14 = .ok (.getfield 9, 3) := by decide +kernel
theorem dX3_readKind_17 : decode cX3_readKind 17 = .ok (.aload_n 0, 1) := by decide +kernel
theorem dX3_readKind_18 : decode cX3_readKind 18 = .ok (.getfield 19, 3) := by decide +kernel
theorem dX3_readKind_21 : decode cX3_readKind 21 = .ok (.baload, 1) := by decide +kernel
theorem dX3_readKind_22 : decode cX3_readKind 22 = .ok (.invokestatic 63, 3) := by decide +kernel
theorem dX3_readKind_25 : decode cX3_readKind 25 = .ok (.istore_n 1, 1) := by decide +kernel
theorem dX3_readKind_26 : decode cX3_readKind 26 = .ok (.iload_n 1, 1) := by decide +kernel
theorem dX3_readKind_27 : decode cX3_readKind 27 = .ok (.ifCond .lt 13, 3) := by decide +kernel
theorem dX3_readKind_30 : decode cX3_readKind 30 = .ok (.aload_n 0, 1) := by decide +kernel
theorem dX3_readKind_31 : decode cX3_readKind 31 = .ok (.dup, 1) := by decide +kernel
theorem dX3_readKind_32 : decode cX3_readKind 32 = .ok (.getfield 19, 3) := by decide +kernel
theorem dX3_readKind_35 : decode cX3_readKind 35 = .ok (.iconst 1, 1) := by decide +kernel
theorem dX3_readKind_36 : decode cX3_readKind 36 = .ok (.iadd, 1) := by decide +kernel
theorem dX3_readKind_37 : decode cX3_readKind 37 = .ok (.putfield 19, 3) := by decide +kernel
theorem dX3_readKind_40 : decode cX3_readKind 40 = .ok (.iload_n 1, 1) := by decide +kernel
theorem dX3_readKind_41 : decode cX3_readKind 41 = .ok (.ireturn, 1) := by decide +kernel
def j_X3_readKind (F : Nat) (st : sw_St) : Option (Int32 × sw_St) :=
(if (st.1 52 2) < (st.1 52 1) then (
 grd (sw_kd st.2.2 = 7) (bnd (st.1 52 2) (sw_ln st.2.2) (
 bo (j_X3_kindOf F (st.1 st.2.2 ((st.1 52 2) : Int32).toNatClampNeg) st) (fun (r5 : Int32) =>
 jn (fun (s6 : sw_St) => 
   some (r5, s6)) (fun k7 =>
  (if r5 < 0 then (
   k7 st)
  else (
   nm (sw_setC st 52 2 ((st.1 52 2) + 1)) (fun (s10 : sw_St) =>
   k7 s10))))))))
else (
 some ((-1), st)))
set_option maxHeartbeats 4000000 in
set_option maxRecDepth 100000 in
theorem c_X3_readKind (F : Nat) (st : sw_St) {r : Int32} {st1 : sw_St} (h : j_X3_readKind F  st = some (r, st1)) : sw_CI yX3_readKind (.code yX3_readKind cX3_readKind 2 (some .int)) 2 (fun g => [.ref (g.1 52)]) st r st1 := by
  refine sw_entI RX3 (fun g => [(0, .ref (g.1 52))]) (by decide) rfl (fun _ => Nat.le_of_ble_eq_true rfl) (fun _ => rfl) ?_
  intro p l e s m args below meth c g X hr hlk
  unfold j_X3_readKind at h
  refine sw_aload_n X 0 rfl rfl dX3_readKind_0 ?_
  refine sw_getI X sw_cl3 (show sw_kd 52 = 3 from rfl) (k := 2) rfl (by decide) wf_X3_19 dX3_readKind_1 ?_
  refine sw_aload_n X 0 rfl rfl dX3_readKind_4 ?_
  refine sw_getI X sw_cl3 (show sw_kd 52 = 3 from rfl) (k := 1) rfl (by decide) wf_X3_15 dX3_readKind_5 ?_
  refine sw_icmp_lt X 13 (by decide) dX3_readKind_8 (fun q1 => ?_) (fun q1 => ?_)
  · have h := ite_T h q1
    refine sw_aload_n X 0 rfl rfl dX3_readKind_13 ?_
    refine sw_getR X sw_cl3 (show sw_kd 52 = 3 from rfl) (k := 0) rfl (by decide) (o1 := st.2.2) rfl wf_X3_9 dX3_readKind_14 ?_
    refine sw_aload_n X 0 rfl rfl dX3_readKind_17 ?_
    refine sw_getI X sw_cl3 (show sw_kd 52 = 3 from rfl) (k := 2) rfl (by decide) wf_X3_19 dX3_readKind_18 ?_
    obtain ⟨q3, h⟩ := grd_E h
    obtain ⟨q2, h⟩ := bnd_E h
    refine sw_bald X q3 rfl q2 dX3_readKind_21 ?_
    obtain ⟨r5, c4, h⟩ := bo_E h
    refine sw_callSI X (As := (fun g => [.int (st.1 st.2.2 ((st.1 52 2) : Int32).toNatClampNeg)])) ws_X3_kindOf (by omega) (c_X3_kindOf F (st.1 st.2.2 ((st.1 52 2) : Int32).toNatClampNeg) st c4) rfl rfl (Nat.le_of_ble_eq_true rfl) wm_X3_63 dX3_readKind_22 ?_
    refine sw_istore_n X [(1, .int r5), (0, .ref (g.1 52))] rfl (by decide) rfl dX3_readKind_25 ?_
    refine sw_iload_n X 0 rfl rfl dX3_readKind_26 ?_
    refine jn1_E (fun (s6 : sw_St) => sw_V p l e 2 s m args below meth c g (sw_A g s.heap.size) (sw_QI below g args s r st1) 2 40 [(1, .int r5)] [] s6) h (fun s6 h => ?_) (fun k7 J8 h => ?_)
    · refine sw_iload_n X 0 rfl rfl dX3_readKind_40 ?_
      exact sw_iret X hr hlk dX3_readKind_41 h
    · refine sw_if_lt X 40 (by decide) dX3_readKind_27 (fun q9 => ?_) (fun q9 => ?_)
      · have h := ite_T h q9
        refine sw_sub [0] rfl ?_
        exact J8 _ h
      · have h := ite_F h q9
        refine sw_aload_n X 1 rfl rfl dX3_readKind_30 ?_
        refine sw_dup X rfl dX3_readKind_31 ?_
        refine sw_getI X sw_cl3 (show sw_kd 52 = 3 from rfl) (k := 2) rfl (by decide) wf_X3_19 dX3_readKind_32 ?_
        refine sw_iconst X (v := 1) (by decide) dX3_readKind_35 ?_
        refine sw_iadd X dX3_readKind_36 ?_
        refine sw_putI X sw_cl3 (show sw_kd 52 = 3 from rfl) (k := 2) rfl (by decide) rfl rfl wf_X3_19 dX3_readKind_37 (fun s10 es10 => ?_)
        have h := nm_E h es10
        refine sw_sub [0] rfl ?_
        exact J8 _ h
  · have h := ite_F h q1
    refine sw_iconst X (v := (-1)) (by decide) dX3_readKind_11 ?_
    exact sw_iret X hr hlk dX3_readKind_12 h
theorem dX3_readStranger_0 : decode cX3_readStranger 0 = .ok (.aload_n 1, 1) := by decide +kernel
theorem dX3_readStranger_1 : decode cX3_readStranger 1 = .ok (.getfield 46, 3) := by decide +kernel
theorem dX3_readStranger_4 : decode cX3_readStranger 4 = .ok (.iload_n 2, 1) := by decide +kernel
theorem dX3_readStranger_5 : decode cX3_readStranger 5 = .ok (.aload_n 0, 1) := by decide +kernel
theorem dX3_readStranger_6 : decode cX3_readStranger 6 = .ok (.invokevirtual 50, 3) := by decide +kernel
theorem dX3_readStranger_9 : decode cX3_readStranger 9 = .ok (.iastore, 1) := by decide +kernel
theorem dX3_readStranger_10 : decode cX3_readStranger 10 = .ok (.aload_n 1, 1) := by decide +kernel
theorem dX3_readStranger_11 : decode cX3_readStranger 11 = .ok (.getfield 46, 3) := by decide +kernel
theorem dX3_readStranger_14 : decode cX3_readStranger 14 = .ok (.iload_n 2, 1) := by decide +kernel
theorem dX3_readStranger_15 : decode cX3_readStranger 15 = .ok (.iaload, 1) := by decide +kernel
theorem dX3_readStranger_16 : decode cX3_readStranger 16 = .ok (.ifCond .ge 5, 3) := by decide +kernel
theorem dX3_readStranger_19 : decode cX3_readStranger 19 = .ok (.iconst 0, 1) := by decide +kernel
theorem dX3_readStranger_20 : decode cX3_readStranger 20 = .ok (.ireturn, 1) := by decide +kernel
theorem dX3_readStranger_21 : decode cX3_readStranger 21 = .ok (.aload_n 1, 1) := by decide +kernel
theorem dX3_readStranger_22 : decode cX3_readStranger 22 = .ok (.getfield 54, 3) := by decide +kernel
theorem dX3_readStranger_25 : decode cX3_readStranger 25 = .ok (.iload_n 2, 1) := by decide +kernel
theorem dX3_readStranger_26 : decode cX3_readStranger 26 = .ok (.aload_n 0, 1) := by decide +kernel
theorem dX3_readStranger_27 : decode cX3_readStranger 27 = .ok (.iconst 1, 1) := by decide +kernel
theorem dX3_readStranger_28 : decode cX3_readStranger 28 = .ok (.bipush 9, 2) := by decide +kernel
theorem dX3_readStranger_30 : decode cX3_readStranger 30 = .ok (.invokevirtual 36, 3) := by decide +kernel
theorem dX3_readStranger_33 : decode cX3_readStranger 33 = .ok (.iastore, 1) := by decide +kernel
theorem dX3_readStranger_34 : decode cX3_readStranger 34 = .ok (.aload_n 1, 1) := by decide +kernel
theorem dX3_readStranger_35 : decode cX3_readStranger 35 = .ok (.getfield 54, 3) := by decide +kernel
theorem dX3_readStranger_38 : decode cX3_readStranger 38 = .ok (.iload_n 2, 1) := by decide +kernel
theorem dX3_readStranger_39 : decode cX3_readStranger 39 = .ok (.iaload, 1) := by decide +kernel
theorem dX3_readStranger_40 : decode cX3_readStranger 40 = .ok (.ifCond .ge 5, 3) := by decide +kernel
theorem dX3_readStranger_43 : decode cX3_readStranger 43 = .ok (.iconst 0, 1) := by decide +kernel
theorem dX3_readStranger_44 : decode cX3_readStranger 44 = .ok (.ireturn, 1) := by decide +kernel
theorem dX3_readStranger_45 : decode cX3_readStranger 45 = .ok (.aload_n 1, 1) := by decide +kernel
theorem dX3_readStranger_46 : decode cX3_readStranger 46 = .ok (.getfield 57, 3) := by decide +kernel
theorem dX3_readStranger_49 : decode cX3_readStranger 49 = .ok (.iload_n 2, 1) := by decide +kernel
theorem dX3_readStranger_50 : decode cX3_readStranger 50 = .ok (.aload_n 0, 1) := by decide +kernel
theorem dX3_readStranger_51 : decode cX3_readStranger 51 = .ok (.iconst 0, 1) := by decide +kernel
theorem dX3_readStranger_52 : decode cX3_readStranger 52 = .ok (.iconst 1, 1) := by decide +kernel
theorem dX3_readStranger_53 : decode cX3_readStranger 53 = .ok (.invokevirtual 36, 3) := by decide +kernel
theorem dX3_readStranger_56 : decode cX3_readStranger 56 = .ok (.iastore, 1) := by decide +kernel
theorem dX3_readStranger_57 : decode cX3_readStranger 57 = .ok (.aload_n 1, 1) := by decide +kernel
theorem dX3_readStranger_58 : decode cX3_readStranger 58 = .ok (.getfield 57, 3) := by decide +kernel
theorem dX3_readStranger_61 : decode cX3_readStranger 61 = .ok (.iload_n 2, 1) := by decide +kernel
theorem dX3_readStranger_62 : decode cX3_readStranger 62 = .ok (.iaload, 1) := by decide +kernel
theorem dX3_readStranger_63 : decode cX3_readStranger 63 = .ok (.ifCond .ge 5, 3) := by decide +kernel
theorem dX3_readStranger_66 : decode cX3_readStranger 66 = .ok (.iconst 0, 1) := by decide +kernel
theorem dX3_readStranger_67 : decode cX3_readStranger 67 = .ok (.ireturn, 1) := by decide +kernel
theorem dX3_readStranger_68 : decode cX3_readStranger 68 = .ok (.aload_n 1, 1) := by decide +kernel
theorem dX3_readStranger_69 : decode cX3_readStranger 69 = .ok (.getfield 60, 3) := by decide +kernel
theorem dX3_readStranger_72 : decode cX3_readStranger 72 = .ok (.iload_n 2, 1) := by decide +kernel
theorem dX3_readStranger_73 : decode cX3_readStranger 73 = .ok (.aload_n 0, 1) := by decide +kernel
theorem dX3_readStranger_74 : decode cX3_readStranger 74 = .ok (.iconst 0, 1) := by decide +kernel
theorem dX3_readStranger_75 : decode cX3_readStranger 75 = .ok (.bipush 9, 2) := by decide +kernel
theorem dX3_readStranger_77 : decode cX3_readStranger 77 = .ok (.invokevirtual 36, 3) := by decide +kernel
theorem dX3_readStranger_80 : decode cX3_readStranger 80 = .ok (.iastore, 1) := by decide +kernel
theorem dX3_readStranger_81 : decode cX3_readStranger 81 = .ok (.aload_n 1, 1) := by decide +kernel
theorem dX3_readStranger_82 : decode cX3_readStranger 82 = .ok (.getfield 60, 3) := by decide +kernel
theorem dX3_readStranger_85 : decode cX3_readStranger 85 = .ok (.iload_n 2, 1) := by decide +kernel
theorem dX3_readStranger_86 : decode cX3_readStranger 86 = .ok (.iaload, 1) := by decide +kernel
theorem dX3_readStranger_87 : decode cX3_readStranger 87 = .ok (.ifCond .lt 7, 3) := by decide +kernel
theorem dX3_readStranger_90 : decode cX3_readStranger 90 = .ok (.iconst 1, 1) := by decide +kernel
theorem dX3_readStranger_91 : decode cX3_readStranger 91 = .ok (.goto 4, 3) := by decide +kernel
theorem dX3_readStranger_94 : decode cX3_readStranger 94 = .ok (.iconst 0, 1) := by decide +kernel
theorem dX3_readStranger_95 : decode cX3_readStranger 95 = .ok (.ireturn, 1) := by decide +kernel
def j_X3_readStranger (F : Nat) (a2 : Int32) (st : sw_St) : Option (Int32 × sw_St) :=
bd (j_X3_readKind F st) (fun (r2 : Int32) (s3 : sw_St) =>
bnd a2 6 (
nm (sw_setC s3 23 (a2 : Int32).toNatClampNeg r2) (fun (s5 : sw_St) =>
bnd a2 6 (
(if 0 ≤ (s5.1 23 (a2 : Int32).toNatClampNeg) then (
 bd (j_X3_readFigure F 1 9 s5) (fun (r9 : Int32) (s10 : sw_St) =>
 bnd a2 6 (
 nm (sw_setC s10 24 (a2 : Int32).toNatClampNeg r9) (fun (s12 : sw_St) =>
 bnd a2 6 (
 (if 0 ≤ (s12.1 24 (a2 : Int32).toNatClampNeg) then (
  bd (j_X3_readFigure F 0 1 s12) (fun (r16 : Int32) (s17 : sw_St) =>
  bnd a2 6 (
  nm (sw_setC s17 25 (a2 : Int32).toNatClampNeg r16) (fun (s19 : sw_St) =>
  bnd a2 6 (
  (if 0 ≤ (s19.1 25 (a2 : Int32).toNatClampNeg) then (
   bd (j_X3_readFigure F 0 9 s19) (fun (r23 : Int32) (s24 : sw_St) =>
   bnd a2 6 (
   nm (sw_setC s24 26 (a2 : Int32).toNatClampNeg r23) (fun (s26 : sw_St) =>
   bnd a2 6 (
   jn (fun (x28 : Int32) => 
     grd (x28 = 0 ∨ x28 = 1) (some (x28, s26))) (fun k29 =>
    (if (s26.1 26 (a2 : Int32).toNatClampNeg) < 0 then (
     k29 0)
    else (
     k29 1))))))))
  else (
   some (0, s19))))))))
 else (
  some (0, s12))))))))
else (
 some (0, s5)))))))
set_option maxHeartbeats 4000000 in
set_option maxRecDepth 100000 in
theorem c_X3_readStranger (F : Nat) (a2 : Int32) (st : sw_St) {r : Int32} {st1 : sw_St} (h : j_X3_readStranger F a2 st = some (r, st1)) : sw_CI yX3_readStranger (.code yX3_readStranger cX3_readStranger 3 (some .boolean)) 3 (fun g => [.ref (g.1 52), .ref (g.1 22), .int a2]) st r st1 := by
  refine sw_entI RX3 (fun g => [(0, .ref (g.1 52)), (1, .ref (g.1 22)), (2, .int a2)]) (by decide) rfl (fun _ => Nat.le_of_ble_eq_true rfl) (fun _ => rfl) ?_
  intro p l e s m args below meth c g X hr hlk
  unfold j_X3_readStranger at h
  refine sw_aload_n X 1 rfl rfl dX3_readStranger_0 ?_
  refine sw_getR X sw_cl4 (show sw_kd 22 = 4 from rfl) (k := 1) rfl (by decide) (o1 := 23) rfl wf_X3_46 dX3_readStranger_1 ?_
  refine sw_iload_n X 2 rfl rfl dX3_readStranger_4 ?_
  refine sw_aload_n X 0 rfl rfl dX3_readStranger_5 ?_
  obtain ⟨r2, s3, c1, h⟩ := bd_E h
  refine sw_callVI X (o := 52) (As := (fun g => [])) sw_cl3 (show sw_kd 52 = 3 from rfl) ws_X3_readKind (by omega) (c_X3_readKind F st c1) rfl rfl (Nat.le_of_ble_eq_true rfl) wm_X3_50 dX3_readStranger_6 ?_
  obtain ⟨q4, h⟩ := bnd_E h
  refine sw_iast X (show sw_kd 23 = 8 from rfl) (n := 6) rfl q4 dX3_readStranger_9 (fun s5 es5 => ?_)
  have h := nm_E h es5
  refine sw_aload_n X 1 rfl rfl dX3_readStranger_10 ?_
  refine sw_getR X sw_cl4 (show sw_kd 22 = 4 from rfl) (k := 1) rfl (by decide) (o1 := 23) rfl wf_X3_46 dX3_readStranger_11 ?_
  refine sw_iload_n X 2 rfl rfl dX3_readStranger_14 ?_
  obtain ⟨q6, h⟩ := bnd_E h
  refine sw_iald X (show sw_kd 23 = 8 from rfl) (n := 6) rfl q6 dX3_readStranger_15 ?_
  refine sw_if_ge X 21 (by decide) dX3_readStranger_16 (fun q7 => ?_) (fun q7 => ?_)
  · have h := ite_T h q7
    refine sw_aload_n X 1 rfl rfl dX3_readStranger_21 ?_
    refine sw_getR X sw_cl4 (show sw_kd 22 = 4 from rfl) (k := 2) rfl (by decide) (o1 := 24) rfl wf_X3_54 dX3_readStranger_22 ?_
    refine sw_iload_n X 2 rfl rfl dX3_readStranger_25 ?_
    refine sw_aload_n X 0 rfl rfl dX3_readStranger_26 ?_
    refine sw_iconst X (v := 1) (by decide) dX3_readStranger_27 ?_
    refine sw_bipush X (v := 9) (by decide) dX3_readStranger_28 ?_
    obtain ⟨r9, s10, c8, h⟩ := bd_E h
    refine sw_callVI X (o := 52) (As := (fun g => [.int 1, .int 9])) sw_cl3 (show sw_kd 52 = 3 from rfl) ws_X3_readFigure (by omega) (c_X3_readFigure F 1 9 s5 c8) rfl rfl (Nat.le_of_ble_eq_true rfl) wm_X3_36 dX3_readStranger_30 ?_
    obtain ⟨q11, h⟩ := bnd_E h
    refine sw_iast X (show sw_kd 24 = 8 from rfl) (n := 6) rfl q11 dX3_readStranger_33 (fun s12 es12 => ?_)
    have h := nm_E h es12
    refine sw_aload_n X 1 rfl rfl dX3_readStranger_34 ?_
    refine sw_getR X sw_cl4 (show sw_kd 22 = 4 from rfl) (k := 2) rfl (by decide) (o1 := 24) rfl wf_X3_54 dX3_readStranger_35 ?_
    refine sw_iload_n X 2 rfl rfl dX3_readStranger_38 ?_
    obtain ⟨q13, h⟩ := bnd_E h
    refine sw_iald X (show sw_kd 24 = 8 from rfl) (n := 6) rfl q13 dX3_readStranger_39 ?_
    refine sw_if_ge X 45 (by decide) dX3_readStranger_40 (fun q14 => ?_) (fun q14 => ?_)
    · have h := ite_T h q14
      refine sw_aload_n X 1 rfl rfl dX3_readStranger_45 ?_
      refine sw_getR X sw_cl4 (show sw_kd 22 = 4 from rfl) (k := 3) rfl (by decide) (o1 := 25) rfl wf_X3_57 dX3_readStranger_46 ?_
      refine sw_iload_n X 2 rfl rfl dX3_readStranger_49 ?_
      refine sw_aload_n X 0 rfl rfl dX3_readStranger_50 ?_
      refine sw_iconst X (v := 0) (by decide) dX3_readStranger_51 ?_
      refine sw_iconst X (v := 1) (by decide) dX3_readStranger_52 ?_
      obtain ⟨r16, s17, c15, h⟩ := bd_E h
      refine sw_callVI X (o := 52) (As := (fun g => [.int 0, .int 1])) sw_cl3 (show sw_kd 52 = 3 from rfl) ws_X3_readFigure (by omega) (c_X3_readFigure F 0 1 s12 c15) rfl rfl (Nat.le_of_ble_eq_true rfl) wm_X3_36 dX3_readStranger_53 ?_
      obtain ⟨q18, h⟩ := bnd_E h
      refine sw_iast X (show sw_kd 25 = 8 from rfl) (n := 6) rfl q18 dX3_readStranger_56 (fun s19 es19 => ?_)
      have h := nm_E h es19
      refine sw_aload_n X 1 rfl rfl dX3_readStranger_57 ?_
      refine sw_getR X sw_cl4 (show sw_kd 22 = 4 from rfl) (k := 3) rfl (by decide) (o1 := 25) rfl wf_X3_57 dX3_readStranger_58 ?_
      refine sw_iload_n X 2 rfl rfl dX3_readStranger_61 ?_
      obtain ⟨q20, h⟩ := bnd_E h
      refine sw_iald X (show sw_kd 25 = 8 from rfl) (n := 6) rfl q20 dX3_readStranger_62 ?_
      refine sw_if_ge X 68 (by decide) dX3_readStranger_63 (fun q21 => ?_) (fun q21 => ?_)
      · have h := ite_T h q21
        refine sw_aload_n X 1 rfl rfl dX3_readStranger_68 ?_
        refine sw_getR X sw_cl4 (show sw_kd 22 = 4 from rfl) (k := 4) rfl (by decide) (o1 := 26) rfl wf_X3_60 dX3_readStranger_69 ?_
        refine sw_iload_n X 2 rfl rfl dX3_readStranger_72 ?_
        refine sw_aload_n X 0 rfl rfl dX3_readStranger_73 ?_
        refine sw_iconst X (v := 0) (by decide) dX3_readStranger_74 ?_
        refine sw_bipush X (v := 9) (by decide) dX3_readStranger_75 ?_
        obtain ⟨r23, s24, c22, h⟩ := bd_E h
        refine sw_callVI X (o := 52) (As := (fun g => [.int 0, .int 9])) sw_cl3 (show sw_kd 52 = 3 from rfl) ws_X3_readFigure (by omega) (c_X3_readFigure F 0 9 s19 c22) rfl rfl (Nat.le_of_ble_eq_true rfl) wm_X3_36 dX3_readStranger_77 ?_
        obtain ⟨q25, h⟩ := bnd_E h
        refine sw_iast X (show sw_kd 26 = 8 from rfl) (n := 6) rfl q25 dX3_readStranger_80 (fun s26 es26 => ?_)
        have h := nm_E h es26
        refine sw_aload_n X 1 rfl rfl dX3_readStranger_81 ?_
        refine sw_getR X sw_cl4 (show sw_kd 22 = 4 from rfl) (k := 4) rfl (by decide) (o1 := 26) rfl wf_X3_60 dX3_readStranger_82 ?_
        refine sw_iload_n X 2 rfl rfl dX3_readStranger_85 ?_
        obtain ⟨q27, h⟩ := bnd_E h
        refine sw_iald X (show sw_kd 26 = 8 from rfl) (n := 6) rfl q27 dX3_readStranger_86 ?_
        refine jn1_E (fun (x28 : Int32) => sw_V p l e 3 s m args below meth c g (sw_A g s.heap.size) (sw_QI below g args s r st1) 3 95 [] [.int x28] s26) h (fun x28 h => ?_) (fun k29 J30 h => ?_)
        · obtain ⟨q31, h⟩ := grd_E h
          exact sw_zret X hr hlk q31 dX3_readStranger_95 h
        · refine sw_if_lt X 94 (by decide) dX3_readStranger_87 (fun q32 => ?_) (fun q32 => ?_)
          · have h := ite_T h q32
            refine sw_iconst X (v := 0) (by decide) dX3_readStranger_94 ?_
            refine sw_sub [] rfl ?_
            exact J30 _ h
          · have h := ite_F h q32
            refine sw_iconst X (v := 1) (by decide) dX3_readStranger_90 ?_
            refine sw_goto X 95 (by decide) dX3_readStranger_91 ?_
            refine sw_sub [] rfl ?_
            exact J30 _ h
      · have h := ite_F h q21
        refine sw_iconst X (v := 0) (by decide) dX3_readStranger_66 ?_
        exact sw_zret X hr hlk (Or.inl rfl) dX3_readStranger_67 h
    · have h := ite_F h q14
      refine sw_iconst X (v := 0) (by decide) dX3_readStranger_43 ?_
      exact sw_zret X hr hlk (Or.inl rfl) dX3_readStranger_44 h
  · have h := ite_F h q7
    refine sw_iconst X (v := 0) (by decide) dX3_readStranger_19 ?_
    exact sw_zret X hr hlk (Or.inl rfl) dX3_readStranger_20 h
theorem dX3_skipBlanks_0 : decode cX3_skipBlanks 0 = .ok (.aload_n 0, 1) := by decide +kernel
theorem dX3_skipBlanks_1 : decode cX3_skipBlanks 1 = .ok (.getfield 19, 3) := by decide +kernel
theorem dX3_skipBlanks_4 : decode cX3_skipBlanks 4 = .ok (.aload_n 0, 1) := by decide +kernel
theorem dX3_skipBlanks_5 : decode cX3_skipBlanks 5 = .ok (.getfield 15, 3) := by decide +kernel
theorem dX3_skipBlanks_8 : decode cX3_skipBlanks 8 = .ok (.if_icmp .ge 30, 3) := by decide +kernel
theorem dX3_skipBlanks_11 : decode cX3_skipBlanks 11 = .ok (.aload_n 0, 1) := by decide +kernel
theorem dX3_skipBlanks_12 : decode cX3_skipBlanks 12 = .ok (.getfield 9, 3) := by decide +kernel
theorem dX3_skipBlanks_15 : decode cX3_skipBlanks 15 = .ok (.aload_n 0, 1) := by decide +kernel
theorem dX3_skipBlanks_16 : decode cX3_skipBlanks 16 = .ok (.getfield 19, 3) := by decide +kernel
theorem dX3_skipBlanks_19 : decode cX3_skipBlanks 19 = .ok (.baload, 1) := by decide +kernel
theorem dX3_skipBlanks_20 : decode cX3_skipBlanks 20 = .ok (.bipush 32, 2) := by decide +kernel
theorem dX3_skipBlanks_22 : decode cX3_skipBlanks 22 = .ok (.if_icmp .ne 16, 3) := by decide +kernel
theorem dX3_skipBlanks_25 : decode cX3_skipBlanks 25 = .ok (.aload_n 0, 1) := by decide +kernel
theorem dX3_skipBlanks_26 : decode cX3_skipBlanks 26 = .ok (.dup, 1) := by decide +kernel
theorem dX3_skipBlanks_27 : decode cX3_skipBlanks 27 = .ok (.getfield 19, 3) := by decide +kernel
theorem dX3_skipBlanks_30 : decode cX3_skipBlanks 30 = .ok (.iconst 1, 1) := by decide +kernel
theorem dX3_skipBlanks_31 : decode cX3_skipBlanks 31 = .ok (.iadd, 1) := by decide +kernel
theorem dX3_skipBlanks_32 : decode cX3_skipBlanks 32 = .ok (.putfield 19, 3) := by decide +kernel
theorem dX3_skipBlanks_35 : decode cX3_skipBlanks 35 = .ok (.goto (-35), 3) := by decide +kernel
theorem dX3_skipBlanks_38 : decode cX3_skipBlanks 38 = .ok (.return_, 1) := by decide +kernel
def j_X3_skipBlanks (F : Nat) (st : sw_St) : Option (Unit × sw_St) :=
lz1 (fun f2 (s1 : sw_St) =>
 jn (
   some ((), s1)) (fun k4 =>
  (if (s1.1 52 1) ≤ (s1.1 52 2) then (
   k4)
  else (
   grd (sw_kd s1.2.2 = 7) (bnd (s1.1 52 2) (sw_ln s1.2.2) (
   (if (s1.1 s1.2.2 ((s1.1 52 2) : Int32).toNatClampNeg) = 32 then (
    nm (sw_setC s1 52 2 ((s1.1 52 2) + 1)) (fun (s10 : sw_St) =>
    f2 s10))
   else (
    k4)))))))) F st
set_option maxHeartbeats 4000000 in
set_option maxRecDepth 100000 in
theorem c_X3_skipBlanks (F : Nat) (st : sw_St) {st1 : sw_St} (h : j_X3_skipBlanks F  st = some ((), st1)) : sw_CV yX3_skipBlanks (.code yX3_skipBlanks cX3_skipBlanks 1 none) 1 (fun g => [.ref (g.1 52)]) st  st1 := by
  refine sw_entV RX3 (fun g => [(0, .ref (g.1 52))]) (by decide) rfl (fun _ => Nat.le_of_ble_eq_true rfl) (fun _ => rfl) ?_
  intro p l e s m args below meth c g X hr hlk
  unfold j_X3_skipBlanks at h
  refine lz1_E (fun (s1 : sw_St) => sw_V p l e 1 s m args below meth c g (sw_A g s.heap.size) (sw_QV below g args s  st1) 1 0 [(0, .ref (g.1 52))] [] s1) h (fun f2 ih3 s1 h => ?_)
  refine sw_aload_n X 0 rfl rfl dX3_skipBlanks_0 ?_
  refine sw_getI X sw_cl3 (show sw_kd 52 = 3 from rfl) (k := 2) rfl (by decide) wf_X3_19 dX3_skipBlanks_1 ?_
  refine sw_aload_n X 0 rfl rfl dX3_skipBlanks_4 ?_
  refine sw_getI X sw_cl3 (show sw_kd 52 = 3 from rfl) (k := 1) rfl (by decide) wf_X3_15 dX3_skipBlanks_5 ?_
  refine jn0_E (sw_V p l e 1 s m args below meth c g (sw_A g s.heap.size) (sw_QV below g args s  st1) 1 38 [] [] s1) h (fun h => ?_) (fun k4 J5 h => ?_)
  · exact sw_vret X hr hlk dX3_skipBlanks_38 h
  · refine sw_icmp_ge X 38 (by decide) dX3_skipBlanks_8 (fun q6 => ?_) (fun q6 => ?_)
    · have h := ite_T h q6
      refine sw_sub [] rfl ?_
      exact J5  h
    · have h := ite_F h q6
      refine sw_aload_n X 0 rfl rfl dX3_skipBlanks_11 ?_
      refine sw_getR X sw_cl3 (show sw_kd 52 = 3 from rfl) (k := 0) rfl (by decide) (o1 := s1.2.2) rfl wf_X3_9 dX3_skipBlanks_12 ?_
      refine sw_aload_n X 0 rfl rfl dX3_skipBlanks_15 ?_
      refine sw_getI X sw_cl3 (show sw_kd 52 = 3 from rfl) (k := 2) rfl (by decide) wf_X3_19 dX3_skipBlanks_16 ?_
      obtain ⟨q8, h⟩ := grd_E h
      obtain ⟨q7, h⟩ := bnd_E h
      refine sw_bald X q8 rfl q7 dX3_skipBlanks_19 ?_
      refine sw_bipush X (v := 32) (by decide) dX3_skipBlanks_20 ?_
      refine sw_icmp_ne X 38 (by decide) dX3_skipBlanks_22 (fun q9 => ?_) (fun q9 => ?_)
      · have h := ite_F h q9
        refine sw_sub [] rfl ?_
        exact J5  h
      · have h := ite_T h q9
        refine sw_aload_n X 0 rfl rfl dX3_skipBlanks_25 ?_
        refine sw_dup X rfl dX3_skipBlanks_26 ?_
        refine sw_getI X sw_cl3 (show sw_kd 52 = 3 from rfl) (k := 2) rfl (by decide) wf_X3_19 dX3_skipBlanks_27 ?_
        refine sw_iconst X (v := 1) (by decide) dX3_skipBlanks_30 ?_
        refine sw_iadd X dX3_skipBlanks_31 ?_
        refine sw_putI X sw_cl3 (show sw_kd 52 = 3 from rfl) (k := 2) rfl (by decide) rfl rfl wf_X3_19 dX3_skipBlanks_32 (fun s10 es10 => ?_)
        have h := nm_E h es10
        refine sw_goto X 0 (by decide) dX3_skipBlanks_35 ?_
        exact ih3 _ h
theorem dX3_readTown_0 : decode cX3_readTown 0 = .ok (.aload_n 0, 1) := by decide +kernel
theorem dX3_readTown_1 : decode cX3_readTown 1 = .ok (.aload_n 1, 1) := by decide +kernel
theorem dX3_readTown_2 : decode cX3_readTown 2 = .ok (.putfield 9, 3) := by decide +kernel
theorem dX3_readTown_5 : decode cX3_readTown 5 = .ok (.aload_n 0, 1) := by decide +kernel
theorem dX3_readTown_6 : decode cX3_readTown 6 = .ok (.iload_n 2, 1) := by decide +kernel
theorem dX3_readTown_7 : decode cX3_readTown 7 = .ok (.putfield 15, 3) := by decide +kernel
theorem dX3_readTown_10 : decode cX3_readTown 10 = .ok (.aload_n 0, 1) := by decide +kernel
theorem dX3_readTown_11 : decode cX3_readTown 11 = .ok (.iconst 0, 1) := by decide +kernel
theorem dX3_readTown_12 : decode cX3_readTown 12 = .ok (.putfield 19, 3) := by decide +kernel
theorem dX3_readTown_15 : decode cX3_readTown 15 = .ok (.aload_n 3, 1) := by decide +kernel
theorem dX3_readTown_16 : decode cX3_readTown 16 = .ok (.iconst 0, 1) := by decide +kernel
theorem dX3_readTown_17 : decode cX3_readTown 17 = .ok (.putfield 22, 3) := by decide +kernel
theorem dX3_readTown_20 : decode cX3_readTown 20 = .ok (.aload_n 0, 1) := by decide +kernel
theorem dX3_readTown_21 : decode cX3_readTown 21 = .ok (.invokevirtual 25, 3) := by decide +kernel
theorem dX3_readTown_24 : decode cX3_readTown 24 = .ok (.aload_n 0, 1) := by decide +kernel
theorem dX3_readTown_25 : decode cX3_readTown 25 = .ok (.aload_n 3, 1) := by decide +kernel
theorem dX3_readTown_26 : decode cX3_readTown 26 = .ok (.invokevirtual 28, 3) := by decide +kernel
theorem dX3_readTown_29 : decode cX3_readTown 29 = .ok (.ifCond .ne 8, 3) := by decide +kernel
theorem dX3_readTown_32 : decode cX3_readTown 32 = .ok (.aload_n 0, 1) := by decide +kernel
theorem dX3_readTown_33 : decode cX3_readTown 33 = .ok (.getfield 19, 3) := by decide +kernel
theorem dX3_readTown_36 : decode cX3_readTown 36 = .ok (.ireturn, 1) := by decide +kernel
theorem dX3_readTown_37 : decode cX3_readTown 37 = .ok (.aload_n 0, 1) := by decide +kernel
theorem dX3_readTown_38 : decode cX3_readTown 38 = .ok (.invokevirtual 25, 3) := by decide +kernel
theorem dX3_readTown_41 : decode cX3_readTown 41 = .ok (.iconst 0, 1) := by decide +kernel
theorem dX3_readTown_42 : decode cX3_readTown 42 = .ok (.istore 4, 2) := by decide +kernel
theorem dX3_readTown_44 : decode cX3_readTown 44 = .ok (.iload 4, 2) := by decide +kernel
theorem dX3_readTown_46 : decode cX3_readTown 46 = .ok (.bipush 6, 2) := by decide +kernel
theorem dX3_readTown_48 : decode cX3_readTown 48 = .ok (.if_icmp .ge 47, 3) := by decide +kernel
theorem dX3_readTown_51 : decode cX3_readTown 51 = .ok (.aload_n 0, 1) := by decide +kernel
theorem dX3_readTown_52 : decode cX3_readTown 52 = .ok (.getfield 19, 3) := by decide +kernel
theorem dX3_readTown_55 : decode cX3_readTown 55 = .ok (.aload_n 0, 1) := by decide +kernel
theorem dX3_readTown_56 : decode cX3_readTown 56 = .ok (.getfield 15, 3) := by decide +kernel
theorem dX3_readTown_59 : decode cX3_readTown 59 = .ok (.if_icmp .ge 36, 3) := by decide +kernel
theorem dX3_readTown_62 : decode cX3_readTown 62 = .ok (.aload_n 0, 1) := by decide +kernel
theorem dX3_readTown_63 : decode cX3_readTown 63 = .ok (.aload_n 3, 1) := by decide +kernel
theorem dX3_readTown_64 : decode cX3_readTown 64 = .ok (.iload 4, 2) := by decide +kernel
theorem dX3_readTown_66 : decode cX3_readTown 66 = .ok (.invokevirtual 32, 3) := by decide +kernel
theorem dX3_readTown_69 : decode cX3_readTown 69 = .ok (.ifCond .ne 8, 3) := by decide +kernel
theorem dX3_readTown_72 : decode cX3_readTown 72 = .ok (.aload_n 0, 1) := by decide +kernel
theorem dX3_readTown_73 : decode cX3_readTown 73 = .ok (.getfield 19, 3) := by decide +kernel
theorem dX3_readTown_76 : decode cX3_readTown 76 = .ok (.ireturn, 1) := by decide +kernel
theorem dX3_readTown_77 : decode cX3_readTown 77 = .ok (.aload_n 3, 1) := by decide +kernel
theorem dX3_readTown_78 : decode cX3_readTown 78 = .ok (.iload 4, 2) := by decide +kernel
theorem dX3_readTown_80 : decode cX3_readTown 80 = .ok (.iconst 1, 1) := by decide +kernel
theorem dX3_readTown_81 : decode cX3_readTown 81 = .ok (.iadd, 1) := by decide +kernel
theorem dX3_readTown_82 : decode cX3_readTown 82 = .ok (.putfield 22, 3) := by decide +kernel
theorem dX3_readTown_85 : decode cX3_readTown 85 = .ok (.aload_n 0, 1) := by decide +kernel
theorem dX3_readTown_86 : decode cX3_readTown 86 = .ok (.invokevirtual 25, 3) := by decide +kernel
theorem dX3_readTown_89 : decode cX3_readTown 89 = .ok (.iinc 4 1, 3) := by decide +kernel
theorem dX3_readTown_92 : decode cX3_readTown 92 = .ok (.goto (-48), 3) := by decide +kernel
theorem dX3_readTown_95 : decode cX3_readTown 95 = .ok (.aload_n 0, 1) := by decide +kernel
theorem dX3_readTown_96 : decode cX3_readTown 96 = .ok (.getfield 19, 3) := by decide +kernel
theorem dX3_readTown_99 : decode cX3_readTown 99 = .ok (.aload_n 0, 1) := by decide +kernel
theorem dX3_readTown_100 : decode cX3_readTown 100 = .ok (.getfield 15, 3) := by decide +kernel
theorem dX3_readTown_103 : decode cX3_readTown 103 = .ok (.if_icmp .lt 10, 3) := by decide +kernel
theorem dX3_readTown_106 : decode cX3_readTown 106 = .ok (.aload_n 3, 1) := by decide +kernel
theorem dX3_readTown_107 : decode cX3_readTown 107 = .ok (.getfield 22, 3) := by decide +kernel
theorem dX3_readTown_110 : decode cX3_readTown 110 = .ok (.ifCond .ne 10, 3) := by decide +kernel
theorem dX3_readTown_113 : decode cX3_readTown 113 = .ok (.aload_n 0, 1) := by decide +kernel
theorem dX3_readTown_114 : decode cX3_readTown 114 = .ok (.getfield 19, 3) := by decide +kernel
theorem dX3_readTown_117 : decode cX3_readTown 117 = .ok (.goto 5, 3) := by decide +kernel
theorem dX3_readTown_120 : decode cX3_readTown 120 = .ok (.bipush (-9), 2) := by decide +kernel
theorem dX3_readTown_122 : decode cX3_readTown 122 = .ok (.ireturn, 1) := by decide +kernel
def j_X3_readTown (F : Nat) (b : Nat) (a2 : Int32) (st : sw_St) : Option (Int32 × sw_St) :=
nm (sw_setB st b) (fun (s1 : sw_St) =>
nm (sw_setC s1 52 1 a2) (fun (s2 : sw_St) =>
nm (sw_setC s2 52 2 0) (fun (s3 : sw_St) =>
nm (sw_setC s3 22 0 0) (fun (s4 : sw_St) =>
bd (j_X3_skipBlanks F s4) (fun (_ : Unit) (s6 : sw_St) =>
bd (j_X3_readSpring F s6) (fun (r8 : Int32) (s9 : sw_St) =>
(if r8 = 0 then (
 some (s9.1 52 2, s9))
else (
 bd (j_X3_skipBlanks F s9) (fun (_ : Unit) (s12 : sw_St) =>
 lz2 (fun f15 (x13 : Int32) (s14 : sw_St) =>
  jn (
    jn (fun (x19 : Int32) => 
      some (x19, s14)) (fun k20 =>
     jn (
       k20 (s14.1 52 2)) (fun k22 =>
      (if (s14.1 52 2) < (s14.1 52 1) then (
       k22)
      else (
       (if (s14.1 22 0) = 0 then (
        k22)
       else (
        k20 (-9)))))))) (fun k17 =>
   (if 6 ≤ x13 then (
    k17)
   else (
    (if (s14.1 52 1) ≤ (s14.1 52 2) then (
     k17)
    else (
     bd (j_X3_readStranger F x13 s14) (fun (r29 : Int32) (s30 : sw_St) =>
     (if r29 = 0 then (
      some (s30.1 52 2, s30))
     else (
      nm (sw_setC s30 22 0 (x13 + 1)) (fun (s32 : sw_St) =>
      bd (j_X3_skipBlanks F s32) (fun (_ : Unit) (s34 : sw_St) =>
      nm (x13 + 1) (fun (x35 : Int32) =>
      f15 x35 s34)))))))))))) F 0 s12)))))))))
set_option maxHeartbeats 4000000 in
set_option maxRecDepth 100000 in
theorem c_X3_readTown (F : Nat) {b : Nat} (hb : sw_kd b = 7) (a2 : Int32) (st : sw_St) {r : Int32} {st1 : sw_St} (h : j_X3_readTown F b a2 st = some (r, st1)) : sw_CI yX3_readTown (.code yX3_readTown cX3_readTown 5 (some .int)) 4 (fun g => [.ref (g.1 52), .ref (g.1 b), .int a2, .ref (g.1 22)]) st r st1 := by
  refine sw_entI RX3 (fun g => [(0, .ref (g.1 52)), (1, .ref (g.1 b)), (2, .int a2), (3, .ref (g.1 22))]) (by decide) rfl (fun _ => Nat.le_of_ble_eq_true rfl) (fun _ => rfl) ?_
  intro p l e s m args below meth c g X hr hlk
  unfold j_X3_readTown at h
  refine sw_aload_n X 0 rfl rfl dX3_readTown_0 ?_
  refine sw_aload_n X 1 rfl rfl dX3_readTown_1 ?_
  refine sw_putB X wf_X3_9 dX3_readTown_2 (fun s1 es1 => ?_)
  have h := nm_E h es1
  refine sw_aload_n X 0 rfl rfl dX3_readTown_5 ?_
  refine sw_iload_n X 2 rfl rfl dX3_readTown_6 ?_
  refine sw_putI X sw_cl3 (show sw_kd 52 = 3 from rfl) (k := 1) rfl (by decide) rfl rfl wf_X3_15 dX3_readTown_7 (fun s2 es2 => ?_)
  have h := nm_E h es2
  refine sw_aload_n X 0 rfl rfl dX3_readTown_10 ?_
  refine sw_iconst X (v := 0) (by decide) dX3_readTown_11 ?_
  refine sw_putI X sw_cl3 (show sw_kd 52 = 3 from rfl) (k := 2) rfl (by decide) rfl rfl wf_X3_19 dX3_readTown_12 (fun s3 es3 => ?_)
  have h := nm_E h es3
  refine sw_aload_n X 3 rfl rfl dX3_readTown_15 ?_
  refine sw_iconst X (v := 0) (by decide) dX3_readTown_16 ?_
  refine sw_putI X sw_cl4 (show sw_kd 22 = 4 from rfl) (k := 0) rfl (by decide) rfl rfl wf_X3_22 dX3_readTown_17 (fun s4 es4 => ?_)
  have h := nm_E h es4
  refine sw_aload_n X 0 rfl rfl dX3_readTown_20 ?_
  obtain ⟨u38, s6, c5, h⟩ := bd_E h
  refine sw_callVV X (o := 52) (As := (fun g => [])) sw_cl3 (show sw_kd 52 = 3 from rfl) ws_X3_skipBlanks (by omega) (c_X3_skipBlanks F s4 c5) rfl rfl (Nat.le_of_ble_eq_true rfl) wm_X3_25 dX3_readTown_21 ?_
  refine sw_aload_n X 0 rfl rfl dX3_readTown_24 ?_
  refine sw_aload_n X 3 rfl rfl dX3_readTown_25 ?_
  obtain ⟨r8, s9, c7, h⟩ := bd_E h
  refine sw_callVI X (o := 52) (As := (fun g => [.ref (g.1 22)])) sw_cl3 (show sw_kd 52 = 3 from rfl) ws_X3_readSpring (by omega) (c_X3_readSpring F s6 c7) rfl rfl (Nat.le_of_ble_eq_true rfl) wm_X3_28 dX3_readTown_26 ?_
  refine sw_if_ne X 37 (by decide) dX3_readTown_29 (fun q10 => ?_) (fun q10 => ?_)
  · have h := ite_F h q10
    refine sw_aload_n X 0 rfl rfl dX3_readTown_37 ?_
    obtain ⟨u37, s12, c11, h⟩ := bd_E h
    refine sw_callVV X (o := 52) (As := (fun g => [])) sw_cl3 (show sw_kd 52 = 3 from rfl) ws_X3_skipBlanks (by omega) (c_X3_skipBlanks F s9 c11) rfl rfl (Nat.le_of_ble_eq_true rfl) wm_X3_25 dX3_readTown_38 ?_
    refine sw_iconst X (v := 0) (by decide) dX3_readTown_41 ?_
    refine sw_istore X [(4, .int 0), (0, .ref (g.1 52)), (1, .ref (g.1 b)), (2, .int a2), (3, .ref (g.1 22))] (by decide) rfl dX3_readTown_42 ?_
    refine sw_sub [1, 4, 0] rfl ?_
    refine lz2_E (fun (x13 : Int32) (s14 : sw_St) => sw_V p l e 4 s m args below meth c g (sw_A g s.heap.size) (sw_QI below g args s r st1) 5 44 [(0, .ref (g.1 52)), (3, .ref (g.1 22)), (4, .int x13)] [] s14) h (fun f15 ih16 x13 s14 h => ?_)
    refine sw_iload X 2 rfl dX3_readTown_44 ?_
    refine sw_bipush X (v := 6) (by decide) dX3_readTown_46 ?_
    refine jn0_E (sw_V p l e 4 s m args below meth c g (sw_A g s.heap.size) (sw_QI below g args s r st1) 5 95 [(0, .ref (g.1 52)), (3, .ref (g.1 22))] [] s14) h (fun h => ?_) (fun k17 J18 h => ?_)
    · refine sw_aload_n X 0 rfl rfl dX3_readTown_95 ?_
      refine sw_getI X sw_cl3 (show sw_kd 52 = 3 from rfl) (k := 2) rfl (by decide) wf_X3_19 dX3_readTown_96 ?_
      refine sw_aload_n X 0 rfl rfl dX3_readTown_99 ?_
      refine sw_getI X sw_cl3 (show sw_kd 52 = 3 from rfl) (k := 1) rfl (by decide) wf_X3_15 dX3_readTown_100 ?_
      refine jn1_E (fun (x19 : Int32) => sw_V p l e 4 s m args below meth c g (sw_A g s.heap.size) (sw_QI below g args s r st1) 5 122 [] [.int x19] s14) h (fun x19 h => ?_) (fun k20 J21 h => ?_)
      · exact sw_iret X hr hlk dX3_readTown_122 h
      · refine jn0_E (sw_V p l e 4 s m args below meth c g (sw_A g s.heap.size) (sw_QI below g args s r st1) 5 113 [(0, .ref (g.1 52))] [] s14) h (fun h => ?_) (fun k22 J23 h => ?_)
        · refine sw_aload_n X 0 rfl rfl dX3_readTown_113 ?_
          refine sw_getI X sw_cl3 (show sw_kd 52 = 3 from rfl) (k := 2) rfl (by decide) wf_X3_19 dX3_readTown_114 ?_
          refine sw_goto X 122 (by decide) dX3_readTown_117 ?_
          refine sw_sub [] rfl ?_
          exact J21 _ h
        · refine sw_icmp_lt X 113 (by decide) dX3_readTown_103 (fun q24 => ?_) (fun q24 => ?_)
          · have h := ite_T h q24
            refine sw_sub [0] rfl ?_
            exact J23  h
          · have h := ite_F h q24
            refine sw_aload_n X 1 rfl rfl dX3_readTown_106 ?_
            refine sw_getI X sw_cl4 (show sw_kd 22 = 4 from rfl) (k := 0) rfl (by decide) wf_X3_22 dX3_readTown_107 ?_
            refine sw_if_ne X 120 (by decide) dX3_readTown_110 (fun q25 => ?_) (fun q25 => ?_)
            · have h := ite_F h q25
              refine sw_bipush X (v := (-9)) (by decide) dX3_readTown_120 ?_
              refine sw_sub [] rfl ?_
              exact J21 _ h
            · have h := ite_T h q25
              refine sw_sub [0] rfl ?_
              exact J23  h
    · refine sw_icmp_ge X 95 (by decide) dX3_readTown_48 (fun q26 => ?_) (fun q26 => ?_)
      · have h := ite_T h q26
        refine sw_sub [0, 1] rfl ?_
        exact J18  h
      · have h := ite_F h q26
        refine sw_aload_n X 0 rfl rfl dX3_readTown_51 ?_
        refine sw_getI X sw_cl3 (show sw_kd 52 = 3 from rfl) (k := 2) rfl (by decide) wf_X3_19 dX3_readTown_52 ?_
        refine sw_aload_n X 0 rfl rfl dX3_readTown_55 ?_
        refine sw_getI X sw_cl3 (show sw_kd 52 = 3 from rfl) (k := 1) rfl (by decide) wf_X3_15 dX3_readTown_56 ?_
        refine sw_icmp_ge X 95 (by decide) dX3_readTown_59 (fun q27 => ?_) (fun q27 => ?_)
        · have h := ite_T h q27
          refine sw_sub [0, 1] rfl ?_
          exact J18  h
        · have h := ite_F h q27
          refine sw_aload_n X 0 rfl rfl dX3_readTown_62 ?_
          refine sw_aload_n X 1 rfl rfl dX3_readTown_63 ?_
          refine sw_iload X 2 rfl dX3_readTown_64 ?_
          obtain ⟨r29, s30, c28, h⟩ := bd_E h
          refine sw_callVI X (o := 52) (As := (fun g => [.ref (g.1 22), .int x13])) sw_cl3 (show sw_kd 52 = 3 from rfl) ws_X3_readStranger (by omega) (c_X3_readStranger F x13 s14 c28) rfl rfl (Nat.le_of_ble_eq_true rfl) wm_X3_32 dX3_readTown_66 ?_
          refine sw_if_ne X 77 (by decide) dX3_readTown_69 (fun q31 => ?_) (fun q31 => ?_)
          · have h := ite_F h q31
            refine sw_aload_n X 1 rfl rfl dX3_readTown_77 ?_
            refine sw_iload X 2 rfl dX3_readTown_78 ?_
            refine sw_iconst X (v := 1) (by decide) dX3_readTown_80 ?_
            refine sw_iadd X dX3_readTown_81 ?_
            refine sw_putI X sw_cl4 (show sw_kd 22 = 4 from rfl) (k := 0) rfl (by decide) rfl rfl wf_X3_22 dX3_readTown_82 (fun s32 es32 => ?_)
            have h := nm_E h es32
            refine sw_aload_n X 0 rfl rfl dX3_readTown_85 ?_
            obtain ⟨u36, s34, c33, h⟩ := bd_E h
            refine sw_callVV X (o := 52) (As := (fun g => [])) sw_cl3 (show sw_kd 52 = 3 from rfl) ws_X3_skipBlanks (by omega) (c_X3_skipBlanks F s32 c33) rfl rfl (Nat.le_of_ble_eq_true rfl) wm_X3_25 dX3_readTown_86 ?_
            obtain ⟨x35, ex35⟩ : ∃ y : Int32, y = x13 + 1 := ⟨_, rfl⟩
            have h := nm_E h ex35
            refine sw_iinc X 2 x35 [(4, .int x35), (0, .ref (g.1 52)), (3, .ref (g.1 22))] rfl (by rw [ex35]; rfl) (by decide) rfl dX3_readTown_89 ?_
            refine sw_goto X 44 (by decide) dX3_readTown_92 ?_
            refine sw_sub [1, 2, 0] rfl ?_
            exact ih16 _ _ h
          · have h := ite_T h q31
            refine sw_aload_n X 0 rfl rfl dX3_readTown_72 ?_
            refine sw_getI X sw_cl3 (show sw_kd 52 = 3 from rfl) (k := 2) rfl (by decide) wf_X3_19 dX3_readTown_73 ?_
            exact sw_iret X hr hlk dX3_readTown_76 h
  · have h := ite_T h q10
    refine sw_aload_n X 0 rfl rfl dX3_readTown_32 ?_
    refine sw_getI X sw_cl3 (show sw_kd 52 = 3 from rfl) (k := 2) rfl (by decide) wf_X3_19 dX3_readTown_33 ?_
    exact sw_iret X hr hlk dX3_readTown_36 h
theorem dX4_takeFrom_0 : decode cX4_takeFrom 0 = .ok (.aload_n 0, 1) := by decide +kernel
theorem dX4_takeFrom_1 : decode cX4_takeFrom 1 = .ok (.aload_n 1, 1) := by decide +kernel
theorem dX4_takeFrom_2 : decode cX4_takeFrom 2 = .ok (.getfield 9, 3) := by decide +kernel
theorem dX4_takeFrom_5 : decode cX4_takeFrom 5 = .ok (.putfield 9, 3) := by decide +kernel
theorem dX4_takeFrom_8 : decode cX4_takeFrom 8 = .ok (.aload_n 1, 1) := by decide +kernel
theorem dX4_takeFrom_9 : decode cX4_takeFrom 9 = .ok (.getfield 15, 3) := by decide +kernel
theorem dX4_takeFrom_12 : decode cX4_takeFrom 12 = .ok (.iconst 0, 1) := by decide +kernel
theorem dX4_takeFrom_13 : decode cX4_takeFrom 13 = .ok (.aload_n 0, 1) := by decide +kernel
theorem dX4_takeFrom_14 : decode cX4_takeFrom 14 = .ok (.getfield 15, 3) := by decide +kernel
theorem dX4_takeFrom_17 : decode cX4_takeFrom 17 = .ok (.iconst 0, 1) := by decide +kernel
theorem dX4_takeFrom_18 : decode cX4_takeFrom 18 = .ok (.bipush 6, 2) := by decide +kernel
theorem dX4_takeFrom_20 : decode cX4_takeFrom 20 = .ok (.invokestatic 58, 3) := by decide +kernel
theorem dX4_takeFrom_23 : decode cX4_takeFrom 23 = .ok (.aload_n 1, 1) := by decide +kernel
theorem dX4_takeFrom_24 : decode cX4_takeFrom 24 = .ok (.getfield 19, 3) := by decide +kernel
theorem dX4_takeFrom_27 : decode cX4_takeFrom 27 = .ok (.iconst 0, 1) := by decide +kernel
theorem dX4_takeFrom_28 : decode cX4_takeFrom 28 = .ok (.aload_n 0, 1) := by decide +kernel
theorem dX4_takeFrom_29 : decode cX4_takeFrom 29 = .ok (.getfield 19, 3) := by decide +kernel
theorem dX4_takeFrom_32 : decode cX4_takeFrom 32 = .ok (.iconst 0, 1) := by decide +kernel
theorem dX4_takeFrom_33 : decode cX4_takeFrom 33 = .ok (.bipush 6, 2) := by decide +kernel
theorem dX4_takeFrom_35 : decode cX4_takeFrom 35 = .ok (.invokestatic 58, 3) := by decide +kernel
theorem dX4_takeFrom_38 : decode cX4_takeFrom 38 = .ok (.aload_n 1, 1) := by decide +kernel
theorem dX4_takeFrom_39 : decode cX4_takeFrom 39 = .ok (.getfield 22, 3) := by decide +kernel
theorem dX4_takeFrom_42 : decode cX4_takeFrom 42 = .ok (.iconst 0, 1) := by decide +kernel
theorem dX4_takeFrom_43 : decode cX4_takeFrom 43 = .ok (.aload_n 0, 1) := by decide +kernel
theorem dX4_takeFrom_44 : decode cX4_takeFrom 44 = .ok (.getfield 22, 3) := by decide +kernel
theorem dX4_takeFrom_47 : decode cX4_takeFrom 47 = .ok (.iconst 0, 1) := by decide +kernel
theorem dX4_takeFrom_48 : decode cX4_takeFrom 48 = .ok (.bipush 6, 2) := by decide +kernel
theorem dX4_takeFrom_50 : decode cX4_takeFrom 50 = .ok (.invokestatic 58, 3) := by decide +kernel
theorem dX4_takeFrom_53 : decode cX4_takeFrom 53 = .ok (.aload_n 1, 1) := by decide +kernel
theorem dX4_takeFrom_54 : decode cX4_takeFrom 54 = .ok (.getfield 25, 3) := by decide +kernel
theorem dX4_takeFrom_57 : decode cX4_takeFrom 57 = .ok (.iconst 0, 1) := by decide +kernel
theorem dX4_takeFrom_58 : decode cX4_takeFrom 58 = .ok (.aload_n 0, 1) := by decide +kernel
theorem dX4_takeFrom_59 : decode cX4_takeFrom 59 = .ok (.getfield 25, 3) := by decide +kernel
theorem dX4_takeFrom_62 : decode cX4_takeFrom 62 = .ok (.iconst 0, 1) := by decide +kernel
theorem dX4_takeFrom_63 : decode cX4_takeFrom 63 = .ok (.bipush 6, 2) := by decide +kernel
theorem dX4_takeFrom_65 : decode cX4_takeFrom 65 = .ok (.invokestatic 58, 3) := by decide +kernel
theorem dX4_takeFrom_68 : decode cX4_takeFrom 68 = .ok (.aload_n 0, 1) := by decide +kernel
theorem dX4_takeFrom_69 : decode cX4_takeFrom 69 = .ok (.aload_n 1, 1) := by decide +kernel
theorem dX4_takeFrom_70 : decode cX4_takeFrom 70 = .ok (.getfield 28, 3) := by decide +kernel
theorem dX4_takeFrom_73 : decode cX4_takeFrom 73 = .ok (.putfield 28, 3) := by decide +kernel
theorem dX4_takeFrom_76 : decode cX4_takeFrom 76 = .ok (.aload_n 0, 1) := by decide +kernel
theorem dX4_takeFrom_77 : decode cX4_takeFrom 77 = .ok (.aload_n 1, 1) := by decide +kernel
theorem dX4_takeFrom_78 : decode cX4_takeFrom 78 = .ok (.getfield 31, 3) := by decide +kernel
theorem dX4_takeFrom_81 : decode cX4_takeFrom 81 = .ok (.putfield 31, 3) := by decide +kernel
theorem dX4_takeFrom_84 : decode cX4_takeFrom 84 = .ok (.aload_n 0, 1) := by decide +kernel
theorem dX4_takeFrom_85 : decode cX4_takeFrom 85 = .ok (.aload_n 1, 1) := by decide +kernel
theorem dX4_takeFrom_86 : decode cX4_takeFrom 86 = .ok (.getfield 34, 3) := by decide +kernel
theorem dX4_takeFrom_89 : decode cX4_takeFrom 89 = .ok (.putfield 34, 3) := by decide +kernel
theorem dX4_takeFrom_92 : decode cX4_takeFrom 92 = .ok (.aload_n 0, 1) := by decide +kernel
theorem dX4_takeFrom_93 : decode cX4_takeFrom 93 = .ok (.aload_n 1, 1) := by decide +kernel
theorem dX4_takeFrom_94 : decode cX4_takeFrom 94 = .ok (.getfield 37, 3) := by decide +kernel
theorem dX4_takeFrom_97 : decode cX4_takeFrom 97 = .ok (.putfield 37, 3) := by decide +kernel
theorem dX4_takeFrom_100 : decode cX4_takeFrom 100 = .ok (.aload_n 0, 1) := by decide +kernel
theorem dX4_takeFrom_101 : decode cX4_takeFrom 101 = .ok (.aload_n 1, 1) := by decide +kernel
theorem dX4_takeFrom_102 : decode cX4_takeFrom 102 = .ok (.getfield 40, 3) := by decide +kernel
theorem dX4_takeFrom_105 : decode cX4_takeFrom 105 = .ok (.putfield 40, 3) := by decide +kernel
theorem dX4_takeFrom_108 : decode cX4_takeFrom 108 = .ok (.aload_n 0, 1) := by decide +kernel
theorem dX4_takeFrom_109 : decode cX4_takeFrom 109 = .ok (.aload_n 1, 1) := by decide +kernel
theorem dX4_takeFrom_110 : decode cX4_takeFrom 110 = .ok (.getfield 43, 3) := by decide +kernel
theorem dX4_takeFrom_113 : decode cX4_takeFrom 113 = .ok (.putfield 43, 3) := by decide +kernel
theorem dX4_takeFrom_116 : decode cX4_takeFrom 116 = .ok (.aload_n 0, 1) := by decide +kernel
theorem dX4_takeFrom_117 : decode cX4_takeFrom 117 = .ok (.aload_n 1, 1) := by decide +kernel
theorem dX4_takeFrom_118 : decode cX4_takeFrom 118 = .ok (.getfield 46, 3) := by decide +kernel
theorem dX4_takeFrom_121 : decode cX4_takeFrom 121 = .ok (.putfield 46, 3) := by decide +kernel
theorem dX4_takeFrom_124 : decode cX4_takeFrom 124 = .ok (.aload_n 1, 1) := by decide +kernel
theorem dX4_takeFrom_125 : decode cX4_takeFrom 125 = .ok (.getfield 49, 3) := by decide +kernel
theorem dX4_takeFrom_128 : decode cX4_takeFrom 128 = .ok (.iconst 0, 1) := by decide +kernel
theorem dX4_takeFrom_129 : decode cX4_takeFrom 129 = .ok (.aload_n 0, 1) := by decide +kernel
theorem dX4_takeFrom_130 : decode cX4_takeFrom 130 = .ok (.getfield 49, 3) := by decide +kernel
theorem dX4_takeFrom_133 : decode cX4_takeFrom 133 = .ok (.iconst 0, 1) := by decide +kernel
theorem dX4_takeFrom_134 : decode cX4_takeFrom 134 = .ok (.bipush 40, 2) := by decide +kernel
theorem dX4_takeFrom_136 : decode cX4_takeFrom 136 = .ok (.invokestatic 58, 3) := by decide +kernel
theorem dX4_takeFrom_139 : decode cX4_takeFrom 139 = .ok (.aload_n 1, 1) := by decide +kernel
theorem dX4_takeFrom_140 : decode cX4_takeFrom 140 = .ok (.getfield 52, 3) := by decide +kernel
theorem dX4_takeFrom_143 : decode cX4_takeFrom 143 = .ok (.iconst 0, 1) := by decide +kernel
theorem dX4_takeFrom_144 : decode cX4_takeFrom 144 = .ok (.aload_n 0, 1) := by decide +kernel
theorem dX4_takeFrom_145 : decode cX4_takeFrom 145 = .ok (.getfield 52, 3) := by decide +kernel
theorem dX4_takeFrom_148 : decode cX4_takeFrom 148 = .ok (.iconst 0, 1) := by decide +kernel
theorem dX4_takeFrom_149 : decode cX4_takeFrom 149 = .ok (.bipush 40, 2) := by decide +kernel
theorem dX4_takeFrom_151 : decode cX4_takeFrom 151 = .ok (.invokestatic 58, 3) := by decide +kernel
theorem dX4_takeFrom_154 : decode cX4_takeFrom 154 = .ok (.aload_n 0, 1) := by decide +kernel
theorem dX4_takeFrom_155 : decode cX4_takeFrom 155 = .ok (.aload_n 1, 1) := by decide +kernel
theorem dX4_takeFrom_156 : decode cX4_takeFrom 156 = .ok (.getfield 55, 3) := by decide +kernel
theorem dX4_takeFrom_159 : decode cX4_takeFrom 159 = .ok (.putfield 55, 3) := by decide +kernel
theorem dX4_takeFrom_162 : decode cX4_takeFrom 162 = .ok (.return_, 1) := by decide +kernel
def j_X4_takeFrom (F : Nat) (t : Nat) (o : Nat) (st : sw_St) : Option (Unit × sw_St) :=
nm (sw_setC st t 0 (st.1 o 0)) (fun (s1 : sw_St) =>
nm (sw_setA s1 (t + 1) (va_cpy (s1.1 (o + 1)) (s1.1 (t + 1)) (0 : Int32).toNatClampNeg (0 : Int32).toNatClampNeg (6 : Int32).toNatClampNeg)) (fun (s2 : sw_St) =>
nm (sw_setA s2 (t + 2) (va_cpy (s2.1 (o + 2)) (s2.1 (t + 2)) (0 : Int32).toNatClampNeg (0 : Int32).toNatClampNeg (6 : Int32).toNatClampNeg)) (fun (s4 : sw_St) =>
nm (sw_setA s4 (t + 3) (va_cpy (s4.1 (o + 3)) (s4.1 (t + 3)) (0 : Int32).toNatClampNeg (0 : Int32).toNatClampNeg (6 : Int32).toNatClampNeg)) (fun (s6 : sw_St) =>
nm (sw_setA s6 (t + 4) (va_cpy (s6.1 (o + 4)) (s6.1 (t + 4)) (0 : Int32).toNatClampNeg (0 : Int32).toNatClampNeg (6 : Int32).toNatClampNeg)) (fun (s8 : sw_St) =>
nm (sw_setC s8 t 5 (s8.1 o 5)) (fun (s10 : sw_St) =>
nm (sw_setC s10 t 6 (s10.1 o 6)) (fun (s11 : sw_St) =>
nm (sw_setC s11 t 7 (s11.1 o 7)) (fun (s12 : sw_St) =>
nm (sw_setC s12 t 8 (s12.1 o 8)) (fun (s13 : sw_St) =>
nm (sw_setC s13 t 9 (s13.1 o 9)) (fun (s14 : sw_St) =>
nm (sw_setC s14 t 10 (s14.1 o 10)) (fun (s15 : sw_St) =>
nm (sw_setC s15 t 11 (s15.1 o 11)) (fun (s16 : sw_St) =>
nm (sw_setA s16 (t + 5) (va_cpy (s16.1 (o + 5)) (s16.1 (t + 5)) (0 : Int32).toNatClampNeg (0 : Int32).toNatClampNeg (40 : Int32).toNatClampNeg)) (fun (s17 : sw_St) =>
nm (sw_setA s17 (t + 6) (va_cpy (s17.1 (o + 6)) (s17.1 (t + 6)) (0 : Int32).toNatClampNeg (0 : Int32).toNatClampNeg (40 : Int32).toNatClampNeg)) (fun (s19 : sw_St) =>
nm (sw_setC s19 t 14 (s19.1 o 14)) (fun (s21 : sw_St) =>
some ((), s21))))))))))))))))
set_option maxHeartbeats 4000000 in
set_option maxRecDepth 100000 in
theorem c_X4_takeFrom (F : Nat) {t : Nat} (ht : sw_kd t = 4) {o : Nat} (ho : sw_kd o = 4) (st : sw_St) {st1 : sw_St} (h : j_X4_takeFrom F t o st = some ((), st1)) : sw_CV yX4_takeFrom (.code yX4_takeFrom cX4_takeFrom 2 none) 1 (fun g => [.ref (g.1 t), .ref (g.1 o)]) st  st1 := by
  refine sw_entV RX4 (fun g => [(0, .ref (g.1 t)), (1, .ref (g.1 o))]) (by decide) rfl (fun _ => Nat.le_of_ble_eq_true rfl) (fun _ => rfl) ?_
  intro p l e s m args below meth c g X hr hlk
  unfold j_X4_takeFrom at h
  refine sw_aload_n X 0 rfl rfl dX4_takeFrom_0 ?_
  refine sw_aload_n X 1 rfl rfl dX4_takeFrom_1 ?_
  refine sw_getI X sw_cl4 (show sw_kd o = 4 from ho) (k := 0) rfl (by decide) wf_X4_9 dX4_takeFrom_2 ?_
  refine sw_putI X sw_cl4 (show sw_kd t = 4 from ht) (k := 0) rfl (by decide) rfl rfl wf_X4_9 dX4_takeFrom_5 (fun s1 es1 => ?_)
  have h := nm_E h es1
  refine sw_aload_n X 1 rfl rfl dX4_takeFrom_8 ?_
  refine sw_getR X sw_cl4 (show sw_kd o = 4 from ho) (k := 1) rfl (by decide) (o1 := o + 1) (sw_rfT s1 ho : sw_rf s1 o 1 = o + 1) wf_X4_15 dX4_takeFrom_9 ?_
  refine sw_iconst X (v := 0) (by decide) dX4_takeFrom_12 ?_
  refine sw_aload_n X 0 rfl rfl dX4_takeFrom_13 ?_
  refine sw_getR X sw_cl4 (show sw_kd t = 4 from ht) (k := 1) rfl (by decide) (o1 := t + 1) (sw_rfT s1 ht : sw_rf s1 t 1 = t + 1) wf_X4_15 dX4_takeFrom_14 ?_
  refine sw_iconst X (v := 0) (by decide) dX4_takeFrom_17 ?_
  refine sw_bipush X (v := 6) (by decide) dX4_takeFrom_18 ?_
  refine sw_copy X (show sw_kd (o + 1) = 8 from (sw_tk1 ho)) (n0 := 6) (sw_tn1 ho) (show sw_kd (t + 1) = 8 from (sw_tk1 ht)) (n1 := 6) (sw_tn1 ht) (by decide) (by decide) (by decide) (by decide) (by decide) wm_X4_58 ws_copy.1 ws_copy.2.1 ws_copy.2.2 (by omega) (Nat.le_of_ble_eq_true rfl) dX4_takeFrom_20 (fun s2 es2 => ?_)
  have h := nm_E h es2
  refine sw_aload_n X 1 rfl rfl dX4_takeFrom_23 ?_
  refine sw_getR X sw_cl4 (show sw_kd o = 4 from ho) (k := 2) rfl (by decide) (o1 := o + 2) (sw_rfT s2 ho : sw_rf s2 o 2 = o + 2) wf_X4_19 dX4_takeFrom_24 ?_
  refine sw_iconst X (v := 0) (by decide) dX4_takeFrom_27 ?_
  refine sw_aload_n X 0 rfl rfl dX4_takeFrom_28 ?_
  refine sw_getR X sw_cl4 (show sw_kd t = 4 from ht) (k := 2) rfl (by decide) (o1 := t + 2) (sw_rfT s2 ht : sw_rf s2 t 2 = t + 2) wf_X4_19 dX4_takeFrom_29 ?_
  refine sw_iconst X (v := 0) (by decide) dX4_takeFrom_32 ?_
  refine sw_bipush X (v := 6) (by decide) dX4_takeFrom_33 ?_
  refine sw_copy X (show sw_kd (o + 2) = 8 from (sw_tk2 ho)) (n0 := 6) (sw_tn2 ho) (show sw_kd (t + 2) = 8 from (sw_tk2 ht)) (n1 := 6) (sw_tn2 ht) (by decide) (by decide) (by decide) (by decide) (by decide) wm_X4_58 ws_copy.1 ws_copy.2.1 ws_copy.2.2 (by omega) (Nat.le_of_ble_eq_true rfl) dX4_takeFrom_35 (fun s4 es4 => ?_)
  have h := nm_E h es4
  refine sw_aload_n X 1 rfl rfl dX4_takeFrom_38 ?_
  refine sw_getR X sw_cl4 (show sw_kd o = 4 from ho) (k := 3) rfl (by decide) (o1 := o + 3) (sw_rfT s4 ho : sw_rf s4 o 3 = o + 3) wf_X4_22 dX4_takeFrom_39 ?_
  refine sw_iconst X (v := 0) (by decide) dX4_takeFrom_42 ?_
  refine sw_aload_n X 0 rfl rfl dX4_takeFrom_43 ?_
  refine sw_getR X sw_cl4 (show sw_kd t = 4 from ht) (k := 3) rfl (by decide) (o1 := t + 3) (sw_rfT s4 ht : sw_rf s4 t 3 = t + 3) wf_X4_22 dX4_takeFrom_44 ?_
  refine sw_iconst X (v := 0) (by decide) dX4_takeFrom_47 ?_
  refine sw_bipush X (v := 6) (by decide) dX4_takeFrom_48 ?_
  refine sw_copy X (show sw_kd (o + 3) = 8 from (sw_tk3 ho)) (n0 := 6) (sw_tn3 ho) (show sw_kd (t + 3) = 8 from (sw_tk3 ht)) (n1 := 6) (sw_tn3 ht) (by decide) (by decide) (by decide) (by decide) (by decide) wm_X4_58 ws_copy.1 ws_copy.2.1 ws_copy.2.2 (by omega) (Nat.le_of_ble_eq_true rfl) dX4_takeFrom_50 (fun s6 es6 => ?_)
  have h := nm_E h es6
  refine sw_aload_n X 1 rfl rfl dX4_takeFrom_53 ?_
  refine sw_getR X sw_cl4 (show sw_kd o = 4 from ho) (k := 4) rfl (by decide) (o1 := o + 4) (sw_rfT s6 ho : sw_rf s6 o 4 = o + 4) wf_X4_25 dX4_takeFrom_54 ?_
  refine sw_iconst X (v := 0) (by decide) dX4_takeFrom_57 ?_
  refine sw_aload_n X 0 rfl rfl dX4_takeFrom_58 ?_
  refine sw_getR X sw_cl4 (show sw_kd t = 4 from ht) (k := 4) rfl (by decide) (o1 := t + 4) (sw_rfT s6 ht : sw_rf s6 t 4 = t + 4) wf_X4_25 dX4_takeFrom_59 ?_
  refine sw_iconst X (v := 0) (by decide) dX4_takeFrom_62 ?_
  refine sw_bipush X (v := 6) (by decide) dX4_takeFrom_63 ?_
  refine sw_copy X (show sw_kd (o + 4) = 8 from (sw_tk4 ho)) (n0 := 6) (sw_tn4 ho) (show sw_kd (t + 4) = 8 from (sw_tk4 ht)) (n1 := 6) (sw_tn4 ht) (by decide) (by decide) (by decide) (by decide) (by decide) wm_X4_58 ws_copy.1 ws_copy.2.1 ws_copy.2.2 (by omega) (Nat.le_of_ble_eq_true rfl) dX4_takeFrom_65 (fun s8 es8 => ?_)
  have h := nm_E h es8
  refine sw_aload_n X 0 rfl rfl dX4_takeFrom_68 ?_
  refine sw_aload_n X 1 rfl rfl dX4_takeFrom_69 ?_
  refine sw_getI X sw_cl4 (show sw_kd o = 4 from ho) (k := 5) rfl (by decide) wf_X4_28 dX4_takeFrom_70 ?_
  refine sw_putI X sw_cl4 (show sw_kd t = 4 from ht) (k := 5) rfl (by decide) rfl rfl wf_X4_28 dX4_takeFrom_73 (fun s10 es10 => ?_)
  have h := nm_E h es10
  refine sw_aload_n X 0 rfl rfl dX4_takeFrom_76 ?_
  refine sw_aload_n X 1 rfl rfl dX4_takeFrom_77 ?_
  refine sw_getI X sw_cl4 (show sw_kd o = 4 from ho) (k := 6) rfl (by decide) wf_X4_31 dX4_takeFrom_78 ?_
  refine sw_putI X sw_cl4 (show sw_kd t = 4 from ht) (k := 6) rfl (by decide) rfl rfl wf_X4_31 dX4_takeFrom_81 (fun s11 es11 => ?_)
  have h := nm_E h es11
  refine sw_aload_n X 0 rfl rfl dX4_takeFrom_84 ?_
  refine sw_aload_n X 1 rfl rfl dX4_takeFrom_85 ?_
  refine sw_getI X sw_cl4 (show sw_kd o = 4 from ho) (k := 7) rfl (by decide) wf_X4_34 dX4_takeFrom_86 ?_
  refine sw_putI X sw_cl4 (show sw_kd t = 4 from ht) (k := 7) rfl (by decide) rfl rfl wf_X4_34 dX4_takeFrom_89 (fun s12 es12 => ?_)
  have h := nm_E h es12
  refine sw_aload_n X 0 rfl rfl dX4_takeFrom_92 ?_
  refine sw_aload_n X 1 rfl rfl dX4_takeFrom_93 ?_
  refine sw_getI X sw_cl4 (show sw_kd o = 4 from ho) (k := 8) rfl (by decide) wf_X4_37 dX4_takeFrom_94 ?_
  refine sw_putI X sw_cl4 (show sw_kd t = 4 from ht) (k := 8) rfl (by decide) rfl rfl wf_X4_37 dX4_takeFrom_97 (fun s13 es13 => ?_)
  have h := nm_E h es13
  refine sw_aload_n X 0 rfl rfl dX4_takeFrom_100 ?_
  refine sw_aload_n X 1 rfl rfl dX4_takeFrom_101 ?_
  refine sw_getI X sw_cl4 (show sw_kd o = 4 from ho) (k := 9) rfl (by decide) wf_X4_40 dX4_takeFrom_102 ?_
  refine sw_putI X sw_cl4 (show sw_kd t = 4 from ht) (k := 9) rfl (by decide) rfl rfl wf_X4_40 dX4_takeFrom_105 (fun s14 es14 => ?_)
  have h := nm_E h es14
  refine sw_aload_n X 0 rfl rfl dX4_takeFrom_108 ?_
  refine sw_aload_n X 1 rfl rfl dX4_takeFrom_109 ?_
  refine sw_getI X sw_cl4 (show sw_kd o = 4 from ho) (k := 10) rfl (by decide) wf_X4_43 dX4_takeFrom_110 ?_
  refine sw_putI X sw_cl4 (show sw_kd t = 4 from ht) (k := 10) rfl (by decide) rfl rfl wf_X4_43 dX4_takeFrom_113 (fun s15 es15 => ?_)
  have h := nm_E h es15
  refine sw_aload_n X 0 rfl rfl dX4_takeFrom_116 ?_
  refine sw_aload_n X 1 rfl rfl dX4_takeFrom_117 ?_
  refine sw_getI X sw_cl4 (show sw_kd o = 4 from ho) (k := 11) rfl (by decide) wf_X4_46 dX4_takeFrom_118 ?_
  refine sw_putI X sw_cl4 (show sw_kd t = 4 from ht) (k := 11) rfl (by decide) rfl rfl wf_X4_46 dX4_takeFrom_121 (fun s16 es16 => ?_)
  have h := nm_E h es16
  refine sw_aload_n X 1 rfl rfl dX4_takeFrom_124 ?_
  refine sw_getR X sw_cl4 (show sw_kd o = 4 from ho) (k := 12) rfl (by decide) (o1 := o + 5) (sw_rfT s16 ho : sw_rf s16 o 12 = o + 5) wf_X4_49 dX4_takeFrom_125 ?_
  refine sw_iconst X (v := 0) (by decide) dX4_takeFrom_128 ?_
  refine sw_aload_n X 0 rfl rfl dX4_takeFrom_129 ?_
  refine sw_getR X sw_cl4 (show sw_kd t = 4 from ht) (k := 12) rfl (by decide) (o1 := t + 5) (sw_rfT s16 ht : sw_rf s16 t 12 = t + 5) wf_X4_49 dX4_takeFrom_130 ?_
  refine sw_iconst X (v := 0) (by decide) dX4_takeFrom_133 ?_
  refine sw_bipush X (v := 40) (by decide) dX4_takeFrom_134 ?_
  refine sw_copy X (show sw_kd (o + 5) = 8 from (sw_tk5 ho)) (n0 := 40) (sw_tn5 ho) (show sw_kd (t + 5) = 8 from (sw_tk5 ht)) (n1 := 40) (sw_tn5 ht) (by decide) (by decide) (by decide) (by decide) (by decide) wm_X4_58 ws_copy.1 ws_copy.2.1 ws_copy.2.2 (by omega) (Nat.le_of_ble_eq_true rfl) dX4_takeFrom_136 (fun s17 es17 => ?_)
  have h := nm_E h es17
  refine sw_aload_n X 1 rfl rfl dX4_takeFrom_139 ?_
  refine sw_getR X sw_cl4 (show sw_kd o = 4 from ho) (k := 13) rfl (by decide) (o1 := o + 6) (sw_rfT s17 ho : sw_rf s17 o 13 = o + 6) wf_X4_52 dX4_takeFrom_140 ?_
  refine sw_iconst X (v := 0) (by decide) dX4_takeFrom_143 ?_
  refine sw_aload_n X 0 rfl rfl dX4_takeFrom_144 ?_
  refine sw_getR X sw_cl4 (show sw_kd t = 4 from ht) (k := 13) rfl (by decide) (o1 := t + 6) (sw_rfT s17 ht : sw_rf s17 t 13 = t + 6) wf_X4_52 dX4_takeFrom_145 ?_
  refine sw_iconst X (v := 0) (by decide) dX4_takeFrom_148 ?_
  refine sw_bipush X (v := 40) (by decide) dX4_takeFrom_149 ?_
  refine sw_copy X (show sw_kd (o + 6) = 8 from (sw_tk6 ho)) (n0 := 40) (sw_tn6 ho) (show sw_kd (t + 6) = 8 from (sw_tk6 ht)) (n1 := 40) (sw_tn6 ht) (by decide) (by decide) (by decide) (by decide) (by decide) wm_X4_58 ws_copy.1 ws_copy.2.1 ws_copy.2.2 (by omega) (Nat.le_of_ble_eq_true rfl) dX4_takeFrom_151 (fun s19 es19 => ?_)
  have h := nm_E h es19
  refine sw_aload_n X 0 rfl rfl dX4_takeFrom_154 ?_
  refine sw_aload_n X 1 rfl rfl dX4_takeFrom_155 ?_
  refine sw_getI X sw_cl4 (show sw_kd o = 4 from ho) (k := 14) rfl (by decide) wf_X4_55 dX4_takeFrom_156 ?_
  refine sw_putI X sw_cl4 (show sw_kd t = 4 from ht) (k := 14) rfl (by decide) rfl rfl wf_X4_55 dX4_takeFrom_159 (fun s21 es21 => ?_)
  have h := nm_E h es21
  exact sw_vret X hr hlk dX4_takeFrom_162 h
theorem dX4_begin_0 : decode cX4_begin 0 = .ok (.aload_n 0, 1) := by decide +kernel
theorem dX4_begin_1 : decode cX4_begin 1 = .ok (.aload_n 0, 1) := by decide +kernel
theorem dX4_begin_2 : decode cX4_begin 2 = .ok (.getfield 28, 3) := by decide +kernel
theorem dX4_begin_5 : decode cX4_begin 5 = .ok (.putfield 34, 3) := by decide +kernel
theorem dX4_begin_8 : decode cX4_begin 8 = .ok (.aload_n 0, 1) := by decide +kernel
theorem dX4_begin_9 : decode cX4_begin 9 = .ok (.aload_n 0, 1) := by decide +kernel
theorem dX4_begin_10 : decode cX4_begin 10 = .ok (.getfield 31, 3) := by decide +kernel
theorem dX4_begin_13 : decode cX4_begin 13 = .ok (.putfield 37, 3) := by decide +kernel
theorem dX4_begin_16 : decode cX4_begin 16 = .ok (.aload_n 0, 1) := by decide +kernel
theorem dX4_begin_17 : decode cX4_begin 17 = .ok (.iconst 0, 1) := by decide +kernel
theorem dX4_begin_18 : decode cX4_begin 18 = .ok (.putfield 40, 3) := by decide +kernel
theorem dX4_begin_21 : decode cX4_begin 21 = .ok (.aload_n 0, 1) := by decide +kernel
theorem dX4_begin_22 : decode cX4_begin 22 = .ok (.iconst 0, 1) := by decide +kernel
theorem dX4_begin_23 : decode cX4_begin 23 = .ok (.putfield 43, 3) := by decide +kernel
theorem dX4_begin_26 : decode cX4_begin 26 = .ok (.aload_n 0, 1) := by decide +kernel
theorem dX4_begin_27 : decode cX4_begin 27 = .ok (.iconst 0, 1) := by decide +kernel
theorem dX4_begin_28 : decode cX4_begin 28 = .ok (.putfield 46, 3) := by decide +kernel
theorem dX4_begin_31 : decode cX4_begin 31 = .ok (.aload_n 0, 1) := by decide +kernel
theorem dX4_begin_32 : decode cX4_begin 32 = .ok (.iconst 0, 1) := by decide +kernel
theorem dX4_begin_33 : decode cX4_begin 33 = .ok (.putfield 55, 3) := by decide +kernel
theorem dX4_begin_36 : decode cX4_begin 36 = .ok (.return_, 1) := by decide +kernel
def j_X4_begin (F : Nat) (t : Nat) (st : sw_St) : Option (Unit × sw_St) :=
nm (sw_setC st t 7 (st.1 t 5)) (fun (s1 : sw_St) =>
nm (sw_setC s1 t 8 (s1.1 t 6)) (fun (s2 : sw_St) =>
nm (sw_setC s2 t 9 0) (fun (s3 : sw_St) =>
nm (sw_setC s3 t 10 0) (fun (s4 : sw_St) =>
nm (sw_setC s4 t 11 0) (fun (s5 : sw_St) =>
nm (sw_setC s5 t 14 0) (fun (s6 : sw_St) =>
some ((), s6)))))))
set_option maxHeartbeats 4000000 in
set_option maxRecDepth 100000 in
theorem c_X4_begin (F : Nat) {t : Nat} (ht : sw_kd t = 4) (st : sw_St) {st1 : sw_St} (h : j_X4_begin F t st = some ((), st1)) : sw_CV yX4_begin (.code yX4_begin cX4_begin 1 none) 1 (fun g => [.ref (g.1 t)]) st  st1 := by
  refine sw_entV RX4 (fun g => [(0, .ref (g.1 t))]) (by decide) rfl (fun _ => Nat.le_of_ble_eq_true rfl) (fun _ => rfl) ?_
  intro p l e s m args below meth c g X hr hlk
  unfold j_X4_begin at h
  refine sw_aload_n X 0 rfl rfl dX4_begin_0 ?_
  refine sw_aload_n X 0 rfl rfl dX4_begin_1 ?_
  refine sw_getI X sw_cl4 (show sw_kd t = 4 from ht) (k := 5) rfl (by decide) wf_X4_28 dX4_begin_2 ?_
  refine sw_putI X sw_cl4 (show sw_kd t = 4 from ht) (k := 7) rfl (by decide) rfl rfl wf_X4_34 dX4_begin_5 (fun s1 es1 => ?_)
  have h := nm_E h es1
  refine sw_aload_n X 0 rfl rfl dX4_begin_8 ?_
  refine sw_aload_n X 0 rfl rfl dX4_begin_9 ?_
  refine sw_getI X sw_cl4 (show sw_kd t = 4 from ht) (k := 6) rfl (by decide) wf_X4_31 dX4_begin_10 ?_
  refine sw_putI X sw_cl4 (show sw_kd t = 4 from ht) (k := 8) rfl (by decide) rfl rfl wf_X4_37 dX4_begin_13 (fun s2 es2 => ?_)
  have h := nm_E h es2
  refine sw_aload_n X 0 rfl rfl dX4_begin_16 ?_
  refine sw_iconst X (v := 0) (by decide) dX4_begin_17 ?_
  refine sw_putI X sw_cl4 (show sw_kd t = 4 from ht) (k := 9) rfl (by decide) rfl rfl wf_X4_40 dX4_begin_18 (fun s3 es3 => ?_)
  have h := nm_E h es3
  refine sw_aload_n X 0 rfl rfl dX4_begin_21 ?_
  refine sw_iconst X (v := 0) (by decide) dX4_begin_22 ?_
  refine sw_putI X sw_cl4 (show sw_kd t = 4 from ht) (k := 10) rfl (by decide) rfl rfl wf_X4_43 dX4_begin_23 (fun s4 es4 => ?_)
  have h := nm_E h es4
  refine sw_aload_n X 0 rfl rfl dX4_begin_26 ?_
  refine sw_iconst X (v := 0) (by decide) dX4_begin_27 ?_
  refine sw_putI X sw_cl4 (show sw_kd t = 4 from ht) (k := 11) rfl (by decide) rfl rfl wf_X4_46 dX4_begin_28 (fun s5 es5 => ?_)
  have h := nm_E h es5
  refine sw_aload_n X 0 rfl rfl dX4_begin_31 ?_
  refine sw_iconst X (v := 0) (by decide) dX4_begin_32 ?_
  refine sw_putI X sw_cl4 (show sw_kd t = 4 from ht) (k := 14) rfl (by decide) rfl rfl wf_X4_55 dX4_begin_33 (fun s6 es6 => ?_)
  have h := nm_E h es6
  exact sw_vret X hr hlk dX4_begin_36 h
theorem dX4_has_0 : decode cX4_has 0 = .ok (.iload_n 1, 1) := by decide +kernel
theorem dX4_has_1 : decode cX4_has 1 = .ok (.ifCond .lt 15, 3) := by decide +kernel
theorem dX4_has_4 : decode cX4_has 4 = .ok (.iload_n 1, 1) := by decide +kernel
theorem dX4_has_5 : decode cX4_has 5 = .ok (.aload_n 0, 1) := by decide +kernel
theorem dX4_has_6 : decode cX4_has 6 = .ok (.getfield 9, 3) := by decide +kernel
theorem dX4_has_9 : decode cX4_has 9 = .ok (.if_icmp .ge 7, 3) := by decide +kernel
theorem dX4_has_12 : decode cX4_has 12 = .ok (.iconst 1, 1) := by decide +kernel
theorem dX4_has_13 : decode cX4_has 13 = .ok (.goto 4, 3) := by decide +kernel
theorem dX4_has_16 : decode cX4_has 16 = .ok (.iconst 0, 1) := by decide +kernel
theorem dX4_has_17 : decode cX4_has 17 = .ok (.ireturn, 1) := by decide +kernel
def j_X4_has (F : Nat) (t : Nat) (a1 : Int32) (st : sw_St) : Option Int32 :=
jn (fun (x1 : Int32) => 
  grd (x1 = 0 ∨ x1 = 1) (some x1)) (fun k2 =>
 jn (
   k2 0) (fun k5 =>
  (if a1 < 0 then (
   k5)
  else (
   (if (st.1 t 0) ≤ a1 then (
    k5)
   else (
    k2 1))))))
set_option maxHeartbeats 4000000 in
set_option maxRecDepth 100000 in
theorem c_X4_has (F : Nat) {t : Nat} (ht : sw_kd t = 4) (a1 : Int32) (st : sw_St) {r : Int32} (h : j_X4_has F t a1 st = some r) : sw_CI yX4_has (.code yX4_has cX4_has 2 (some .boolean)) 1 (fun g => [.ref (g.1 t), .int a1]) st r st := by
  refine sw_entI RX4 (fun g => [(0, .ref (g.1 t)), (1, .int a1)]) (by decide) rfl (fun _ => Nat.le_of_ble_eq_true rfl) (fun _ => rfl) ?_
  intro p l e s m args below meth c g X hr hlk
  unfold j_X4_has at h
  refine sw_iload_n X 1 rfl rfl dX4_has_0 ?_
  refine jn1_E (fun (x1 : Int32) => sw_V p l e 1 s m args below meth c g (sw_A g s.heap.size) (sw_QI below g args s r st) 2 17 [] [.int x1] st) h (fun x1 h => ?_) (fun k2 J3 h => ?_)
  · obtain ⟨q4, h⟩ := grd_E h
    exact sw_zret X hr hlk q4 dX4_has_17 (by cases h; rfl)
  · refine jn0_E (sw_V p l e 1 s m args below meth c g (sw_A g s.heap.size) (sw_QI below g args s r st) 2 16 [] [] st) h (fun h => ?_) (fun k5 J6 h => ?_)
    · refine sw_iconst X (v := 0) (by decide) dX4_has_16 ?_
      exact J3 _ h
    · refine sw_if_lt X 16 (by decide) dX4_has_1 (fun q7 => ?_) (fun q7 => ?_)
      · have h := ite_T h q7
        refine sw_sub [] rfl ?_
        exact J6  h
      · have h := ite_F h q7
        refine sw_iload_n X 1 rfl rfl dX4_has_4 ?_
        refine sw_aload_n X 0 rfl rfl dX4_has_5 ?_
        refine sw_getI X sw_cl4 (show sw_kd t = 4 from ht) (k := 0) rfl (by decide) wf_X4_9 dX4_has_6 ?_
        refine sw_icmp_ge X 16 (by decide) dX4_has_9 (fun q8 => ?_) (fun q8 => ?_)
        · have h := ite_T h q8
          refine sw_sub [] rfl ?_
          exact J6  h
        · have h := ite_F h q8
          refine sw_iconst X (v := 1) (by decide) dX4_has_12 ?_
          refine sw_goto X 17 (by decide) dX4_has_13 ?_
          refine sw_sub [] rfl ?_
          exact J3 _ h
theorem dX4_isIn_0 : decode cX4_isIn 0 = .ok (.aload_n 0, 1) := by decide +kernel
theorem dX4_isIn_1 : decode cX4_isIn 1 = .ok (.getfield 46, 3) := by decide +kernel
theorem dX4_isIn_4 : decode cX4_isIn 4 = .ok (.iload_n 1, 1) := by decide +kernel
theorem dX4_isIn_5 : decode cX4_isIn 5 = .ok (.ishr, 1) := by decide +kernel
theorem dX4_isIn_6 : decode cX4_isIn 6 = .ok (.iconst 1, 1) := by decide +kernel
theorem dX4_isIn_7 : decode cX4_isIn 7 = .ok (.iand, 1) := by decide +kernel
theorem dX4_isIn_8 : decode cX4_isIn 8 = .ok (.iconst 1, 1) := by decide +kernel
theorem dX4_isIn_9 : decode cX4_isIn 9 = .ok (.if_icmp .ne 7, 3) := by decide +kernel
theorem dX4_isIn_12 : decode cX4_isIn 12 = .ok (.iconst 1, 1) := by decide +kernel
theorem dX4_isIn_13 : decode cX4_isIn 13 = .ok (.goto 4, 3) := by decide +kernel
theorem dX4_isIn_16 : decode cX4_isIn 16 = .ok (.iconst 0, 1) := by decide +kernel
theorem dX4_isIn_17 : decode cX4_isIn 17 = .ok (.ireturn, 1) := by decide +kernel
def j_X4_isIn (F : Nat) (t : Nat) (a1 : Int32) (st : sw_St) : Option Int32 :=
jn (fun (x1 : Int32) => 
  grd (x1 = 0 ∨ x1 = 1) (some x1)) (fun k2 =>
 (if (((st.1 t 11) >>> (a1 &&& 31)) &&& 1) = 1 then (
  k2 1)
 else (
  k2 0)))
set_option maxHeartbeats 4000000 in
set_option maxRecDepth 100000 in
theorem c_X4_isIn (F : Nat) {t : Nat} (ht : sw_kd t = 4) (a1 : Int32) (st : sw_St) {r : Int32} (h : j_X4_isIn F t a1 st = some r) : sw_CI yX4_isIn (.code yX4_isIn cX4_isIn 2 (some .boolean)) 1 (fun g => [.ref (g.1 t), .int a1]) st r st := by
  refine sw_entI RX4 (fun g => [(0, .ref (g.1 t)), (1, .int a1)]) (by decide) rfl (fun _ => Nat.le_of_ble_eq_true rfl) (fun _ => rfl) ?_
  intro p l e s m args below meth c g X hr hlk
  unfold j_X4_isIn at h
  refine sw_aload_n X 0 rfl rfl dX4_isIn_0 ?_
  refine sw_getI X sw_cl4 (show sw_kd t = 4 from ht) (k := 11) rfl (by decide) wf_X4_46 dX4_isIn_1 ?_
  refine sw_iload_n X 1 rfl rfl dX4_isIn_4 ?_
  refine sw_ishr X dX4_isIn_5 ?_
  refine sw_iconst X (v := 1) (by decide) dX4_isIn_6 ?_
  refine sw_iand X dX4_isIn_7 ?_
  refine sw_iconst X (v := 1) (by decide) dX4_isIn_8 ?_
  refine jn1_E (fun (x1 : Int32) => sw_V p l e 1 s m args below meth c g (sw_A g s.heap.size) (sw_QI below g args s r st) 2 17 [] [.int x1] st) h (fun x1 h => ?_) (fun k2 J3 h => ?_)
  · obtain ⟨q4, h⟩ := grd_E h
    exact sw_zret X hr hlk q4 dX4_isIn_17 (by cases h; rfl)
  · refine sw_icmp_ne X 16 (by decide) dX4_isIn_9 (fun q5 => ?_) (fun q5 => ?_)
    · have h := ite_F h q5
      refine sw_iconst X (v := 0) (by decide) dX4_isIn_16 ?_
      refine sw_sub [] rfl ?_
      exact J3 _ h
    · have h := ite_T h q5
      refine sw_iconst X (v := 1) (by decide) dX4_isIn_12 ?_
      refine sw_goto X 17 (by decide) dX4_isIn_13 ?_
      refine sw_sub [] rfl ?_
      exact J3 _ h
theorem dX4_isFull_0 : decode cX4_isFull 0 = .ok (.aload_n 0, 1) := by decide +kernel
theorem dX4_isFull_1 : decode cX4_isFull 1 = .ok (.getfield 55, 3) := by decide +kernel
theorem dX4_isFull_4 : decode cX4_isFull 4 = .ok (.iload_n 1, 1) := by decide +kernel
theorem dX4_isFull_5 : decode cX4_isFull 5 = .ok (.iadd, 1) := by decide +kernel
theorem dX4_isFull_6 : decode cX4_isFull 6 = .ok (.bipush 40, 2) := by decide +kernel
theorem dX4_isFull_8 : decode cX4_isFull 8 = .ok (.if_icmp .le 7, 3) := by decide +kernel
theorem dX4_isFull_11 : decode cX4_isFull 11 = .ok (.iconst 1, 1) := by decide +kernel
theorem dX4_isFull_12 : decode cX4_isFull 12 = .ok (.goto 4, 3) := by decide +kernel
theorem dX4_isFull_15 : decode cX4_isFull 15 = .ok (.iconst 0, 1) := by decide +kernel
theorem dX4_isFull_16 : decode cX4_isFull 16 = .ok (.ireturn, 1) := by decide +kernel
def j_X4_isFull (F : Nat) (t : Nat) (a1 : Int32) (st : sw_St) : Option Int32 :=
jn (fun (x1 : Int32) => 
  grd (x1 = 0 ∨ x1 = 1) (some x1)) (fun k2 =>
 (if ((st.1 t 14) + a1) ≤ 40 then (
  k2 0)
 else (
  k2 1)))
set_option maxHeartbeats 4000000 in
set_option maxRecDepth 100000 in
theorem c_X4_isFull (F : Nat) {t : Nat} (ht : sw_kd t = 4) (a1 : Int32) (st : sw_St) {r : Int32} (h : j_X4_isFull F t a1 st = some r) : sw_CI yX4_isFull (.code yX4_isFull cX4_isFull 2 (some .boolean)) 1 (fun g => [.ref (g.1 t), .int a1]) st r st := by
  refine sw_entI RX4 (fun g => [(0, .ref (g.1 t)), (1, .int a1)]) (by decide) rfl (fun _ => Nat.le_of_ble_eq_true rfl) (fun _ => rfl) ?_
  intro p l e s m args below meth c g X hr hlk
  unfold j_X4_isFull at h
  refine sw_aload_n X 0 rfl rfl dX4_isFull_0 ?_
  refine sw_getI X sw_cl4 (show sw_kd t = 4 from ht) (k := 14) rfl (by decide) wf_X4_55 dX4_isFull_1 ?_
  refine sw_iload_n X 1 rfl rfl dX4_isFull_4 ?_
  refine sw_iadd X dX4_isFull_5 ?_
  refine sw_bipush X (v := 40) (by decide) dX4_isFull_6 ?_
  refine jn1_E (fun (x1 : Int32) => sw_V p l e 1 s m args below meth c g (sw_A g s.heap.size) (sw_QI below g args s r st) 2 16 [] [.int x1] st) h (fun x1 h => ?_) (fun k2 J3 h => ?_)
  · obtain ⟨q4, h⟩ := grd_E h
    exact sw_zret X hr hlk q4 dX4_isFull_16 (by cases h; rfl)
  · refine sw_icmp_le X 15 (by decide) dX4_isFull_8 (fun q5 => ?_) (fun q5 => ?_)
    · have h := ite_T h q5
      refine sw_iconst X (v := 0) (by decide) dX4_isFull_15 ?_
      refine sw_sub [] rfl ?_
      exact J3 _ h
    · have h := ite_F h q5
      refine sw_iconst X (v := 1) (by decide) dX4_isFull_11 ?_
      refine sw_goto X 16 (by decide) dX4_isFull_12 ?_
      refine sw_sub [] rfl ?_
      exact J3 _ h
end
section
theorem dX4_carryOut_0 : decode cX4_carryOut 0 = .ok (.iload_n 1, 1) := by decide +kernel
theorem dX4_carryOut_1 : decode cX4_carryOut 1 = .ok (.tableswitch 121 0 2 #[27, 59, 76], 27) := by decide +kernel
theorem dX4_carryOut_28 : decode cX4_carryOut 28 = .ok (.aload_n 0, 1) := by decide +kernel
theorem dX4_carryOut_29 : decode cX4_carryOut 29 = .ok (.aload_n 0, 1) := by decide +kernel
theorem dX4_carryOut_30 : decode cX4_carryOut 30 = .ok (.iload_n 2, 1) := by decide +kernel
theorem dX4_carryOut_31 : decode cX4_carryOut 31 = .ok (.aload_n 0, 1) := by decide +kernel
theorem dX4_carryOut_32 : decode cX4_carryOut 32 = .ok (.getfield 34, 3) := by decide +kernel
theorem dX4_carryOut_35 : decode cX4_carryOut 35 = .ok (.aload_n 0, 1) := by decide +kernel
theorem dX4_carryOut_36 : decode cX4_carryOut 36 = .ok (.getfield 46, 3) := by decide +kernel
theorem dX4_carryOut_39 : decode cX4_carryOut 39 = .ok (.invokevirtual 79, 3) := by decide +kernel
theorem dX4_carryOut_42 : decode cX4_carryOut 42 = .ok (.putfield 34, 3) := by decide +kernel
theorem dX4_carryOut_45 : decode cX4_carryOut 45 = .ok (.aload_n 0, 1) := by decide +kernel
theorem dX4_carryOut_46 : decode cX4_carryOut 46 = .ok (.dup, 1) := by decide +kernel
theorem dX4_carryOut_47 : decode cX4_carryOut 47 = .ok (.getfield 46, 3) := by decide +kernel
theorem dX4_carryOut_50 : decode cX4_carryOut 50 = .ok (.iconst 1, 1) := by decide +kernel
theorem dX4_carryOut_51 : decode cX4_carryOut 51 = .ok (.iload_n 2, 1) := by decide +kernel
theorem dX4_carryOut_52 : decode cX4_carryOut 52 = .ok (.ishl, 1) := by decide +kernel
theorem dX4_carryOut_53 : decode cX4_carryOut 53 = .ok (.ior, 1) := by decide +kernel
theorem dX4_carryOut_54 : decode cX4_carryOut 54 = .ok (.putfield 46, 3) := by decide +kernel
theorem dX4_carryOut_57 : decode cX4_carryOut 57 = .ok (.goto 70, 3) := by decide +kernel
theorem dX4_carryOut_60 : decode cX4_carryOut 60 = .ok (.aload_n 0, 1) := by decide +kernel
theorem dX4_carryOut_61 : decode cX4_carryOut 61 = .ok (.dup, 1) := by decide +kernel
theorem dX4_carryOut_62 : decode cX4_carryOut 62 = .ok (.getfield 46, 3) := by decide +kernel
theorem dX4_carryOut_65 : decode cX4_carryOut 65 = .ok (.iconst 1, 1) := by decide +kernel
theorem dX4_carryOut_66 : decode cX4_carryOut 66 = .ok (.iload_n 2, 1) := by decide +kernel
theorem dX4_carryOut_67 : decode cX4_carryOut 67 = .ok (.ishl, 1) := by decide +kernel
theorem dX4_carryOut_68 : decode cX4_carryOut 68 = .ok (.iconst (-1), 1) := by decide +kernel
theorem dX4_carryOut_69 : decode cX4_carryOut 69 = .ok (.ixor, 1) := by decide +kernel
theorem dX4_carryOut_70 : decode cX4_carryOut 70 = .ok (.iand, 1) := by decide +kernel
theorem dX4_carryOut_71 : decode cX4_carryOut 71 = .ok (.putfield 46, 3) := by decide +kernel
theorem dX4_carryOut_74 : decode cX4_carryOut 74 = .ok (.goto 53, 3) := by decide +kernel
theorem dX4_carryOut_77 : decode cX4_carryOut 77 = .ok (.aload_n 0, 1) := by decide +kernel
theorem dX4_carryOut_78 : decode cX4_carryOut 78 = .ok (.aload_n 0, 1) := by decide +kernel
theorem dX4_carryOut_79 : decode cX4_carryOut 79 = .ok (.aload_n 0, 1) := by decide +kernel
theorem dX4_carryOut_80 : decode cX4_carryOut 80 = .ok (.getfield 34, 3) := by decide +kernel
theorem dX4_carryOut_83 : decode cX4_carryOut 83 = .ok (.ifCond .le 7, 3) := by decide +kernel
theorem dX4_carryOut_86 : decode cX4_carryOut 86 = .ok (.iconst 1, 1) := by decide +kernel
theorem dX4_carryOut_87 : decode cX4_carryOut 87 = .ok (.goto 4, 3) := by decide +kernel
theorem dX4_carryOut_90 : decode cX4_carryOut 90 = .ok (.iconst 0, 1) := by decide +kernel
theorem dX4_carryOut_91 : decode cX4_carryOut 91 = .ok (.invokevirtual 83, 3) := by decide +kernel
theorem dX4_carryOut_94 : decode cX4_carryOut 94 = .ok (.putfield 40, 3) := by decide +kernel
theorem dX4_carryOut_97 : decode cX4_carryOut 97 = .ok (.aload_n 0, 1) := by decide +kernel
theorem dX4_carryOut_98 : decode cX4_carryOut 98 = .ok (.aload_n 0, 1) := by decide +kernel
theorem dX4_carryOut_99 : decode cX4_carryOut 99 = .ok (.aload_n 0, 1) := by decide +kernel
theorem dX4_carryOut_100 : decode cX4_carryOut 100 = .ok (.getfield 34, 3) := by decide +kernel
theorem dX4_carryOut_103 : decode cX4_carryOut 103 = .ok (.invokevirtual 87, 3) := by decide +kernel
theorem dX4_carryOut_106 : decode cX4_carryOut 106 = .ok (.putfield 34, 3) := by decide +kernel
theorem dX4_carryOut_109 : decode cX4_carryOut 109 = .ok (.aload_n 0, 1) := by decide +kernel
theorem dX4_carryOut_110 : decode cX4_carryOut 110 = .ok (.dup, 1) := by decide +kernel
theorem dX4_carryOut_111 : decode cX4_carryOut 111 = .ok (.getfield 43, 3) := by decide +kernel
theorem dX4_carryOut_114 : decode cX4_carryOut 114 = .ok (.iconst 1, 1) := by decide +kernel
theorem dX4_carryOut_115 : decode cX4_carryOut 115 = .ok (.iadd, 1) := by decide +kernel
theorem dX4_carryOut_116 : decode cX4_carryOut 116 = .ok (.putfield 43, 3) := by decide +kernel
theorem dX4_carryOut_119 : decode cX4_carryOut 119 = .ok (.goto 8, 3) := by decide +kernel
theorem dX4_carryOut_122 : decode cX4_carryOut 122 = .ok (.aload_n 0, 1) := by decide +kernel
theorem dX4_carryOut_123 : decode cX4_carryOut 123 = .ok (.iload_n 2, 1) := by decide +kernel
theorem dX4_carryOut_124 : decode cX4_carryOut 124 = .ok (.putfield 37, 3) := by decide +kernel
theorem dX4_carryOut_127 : decode cX4_carryOut 127 = .ok (.return_, 1) := by decide +kernel
def j_X4_carryOut (F : Nat) (t : Nat) (a1 : Int32) (a2 : Int32) (st : sw_St) : Option (Unit × sw_St) :=
jn (fun (s1 : sw_St) => 
  some ((), s1)) (fun k2 =>
 (if a1 = 0 then (
  bo (j_X4_woundBy F t a2 (st.1 t 7) (st.1 t 11) st) (fun (r6 : Int32) =>
  nm (sw_setC st t 7 r6) (fun (s7 : sw_St) =>
  nm (sw_setC s7 t 11 ((s7.1 t 11) ||| (1 <<< (a2 &&& 31)))) (fun (s8 : sw_St) =>
  k2 s8))))
 else (
  (if a1 = 1 then (
   nm (sw_setC st t 11 ((st.1 t 11) &&& ((1 <<< (a2 &&& 31)) ^^^ (-1)))) (fun (s10 : sw_St) =>
   k2 s10))
  else (
   (if a1 = 2 then (
    jn (fun (x12 : Int32) => 
      bo (j_X4_clockAfter F t x12 st) (fun (r16 : Int32) =>
      nm (sw_setC st t 9 r16) (fun (s17 : sw_St) =>
      bo (j_X4_woundNext F t (s17.1 t 7) s17) (fun (r19 : Int32) =>
      nm (sw_setC s17 t 7 r19) (fun (s20 : sw_St) =>
      nm (sw_setC s20 t 10 ((s20.1 t 10) + 1)) (fun (s21 : sw_St) =>
      k2 s21)))))) (fun k13 =>
     (if (st.1 t 7) ≤ 0 then (
      k13 0)
     else (
      k13 1))))
   else (
    nm (sw_setC st t 8 a2) (fun (s23 : sw_St) =>
    k2 s23))))))))
set_option maxHeartbeats 4000000 in
set_option maxRecDepth 100000 in
theorem c_X4_carryOut (F : Nat) {t : Nat} (ht : sw_kd t = 4) (a1 : Int32) (a2 : Int32) (st : sw_St) {st1 : sw_St} (h : j_X4_carryOut F t a1 a2 st = some ((), st1)) : sw_CV yX4_carryOut (.code yX4_carryOut cX4_carryOut 3 none) 5 (fun g => [.ref (g.1 t), .int a1, .int a2]) st  st1 := by
  refine sw_entV RX4 (fun g => [(0, .ref (g.1 t)), (1, .int a1), (2, .int a2)]) (by decide) rfl (fun _ => Nat.le_of_ble_eq_true rfl) (fun _ => rfl) ?_
  intro p l e s m args below meth c g X hr hlk
  unfold j_X4_carryOut at h
  refine sw_iload_n X 1 rfl rfl dX4_carryOut_0 ?_
  refine jn1_E (fun (s1 : sw_St) => sw_V p l e 5 s m args below meth c g (sw_A g s.heap.size) (sw_QV below g args s  st1) 3 127 [] [] s1) h (fun s1 h => ?_) (fun k2 J3 h => ?_)
  · exact sw_vret X hr hlk dX4_carryOut_127 h
  · by_cases q4 : a1 = 0
    · have h := ite_T h q4
      refine sw_tabIn X (k := 0) (off := 27) 28 q4 (by decide) (by decide) (by decide) (by decide) dX4_carryOut_1 ?_
      refine sw_aload_n X 0 rfl rfl dX4_carryOut_28 ?_
      refine sw_aload_n X 0 rfl rfl dX4_carryOut_29 ?_
      refine sw_iload_n X 2 rfl rfl dX4_carryOut_30 ?_
      refine sw_aload_n X 0 rfl rfl dX4_carryOut_31 ?_
      refine sw_getI X sw_cl4 (show sw_kd t = 4 from ht) (k := 7) rfl (by decide) wf_X4_34 dX4_carryOut_32 ?_
      refine sw_aload_n X 0 rfl rfl dX4_carryOut_35 ?_
      refine sw_getI X sw_cl4 (show sw_kd t = 4 from ht) (k := 11) rfl (by decide) wf_X4_46 dX4_carryOut_36 ?_
      obtain ⟨r6, c5, h⟩ := bo_E h
      refine sw_callVI X (o := t) (As := (fun g => [.int a2, .int (st.1 t 7), .int (st.1 t 11)])) sw_cl4 (show sw_kd t = 4 from ht) ws_X4_woundBy (by omega) (c_X4_woundBy F (show sw_kd t = 4 from ht) a2 (st.1 t 7) (st.1 t 11) st c5) rfl rfl (Nat.le_of_ble_eq_true rfl) wm_X4_79 dX4_carryOut_39 ?_
      refine sw_putI X sw_cl4 (show sw_kd t = 4 from ht) (k := 7) rfl (by decide) rfl rfl wf_X4_34 dX4_carryOut_42 (fun s7 es7 => ?_)
      have h := nm_E h es7
      refine sw_aload_n X 0 rfl rfl dX4_carryOut_45 ?_
      refine sw_dup X rfl dX4_carryOut_46 ?_
      refine sw_getI X sw_cl4 (show sw_kd t = 4 from ht) (k := 11) rfl (by decide) wf_X4_46 dX4_carryOut_47 ?_
      refine sw_iconst X (v := 1) (by decide) dX4_carryOut_50 ?_
      refine sw_iload_n X 2 rfl rfl dX4_carryOut_51 ?_
      refine sw_ishl X dX4_carryOut_52 ?_
      refine sw_ior X dX4_carryOut_53 ?_
      refine sw_putI X sw_cl4 (show sw_kd t = 4 from ht) (k := 11) rfl (by decide) rfl rfl wf_X4_46 dX4_carryOut_54 (fun s8 es8 => ?_)
      have h := nm_E h es8
      refine sw_goto X 127 (by decide) dX4_carryOut_57 ?_
      refine sw_sub [] rfl ?_
      exact J3 _ h
    · have h := ite_F h q4
      by_cases q9 : a1 = 1
      · have h := ite_T h q9
        refine sw_tabIn X (k := 1) (off := 59) 60 q9 (by decide) (by decide) (by decide) (by decide) dX4_carryOut_1 ?_
        refine sw_aload_n X 0 rfl rfl dX4_carryOut_60 ?_
        refine sw_dup X rfl dX4_carryOut_61 ?_
        refine sw_getI X sw_cl4 (show sw_kd t = 4 from ht) (k := 11) rfl (by decide) wf_X4_46 dX4_carryOut_62 ?_
        refine sw_iconst X (v := 1) (by decide) dX4_carryOut_65 ?_
        refine sw_iload_n X 2 rfl rfl dX4_carryOut_66 ?_
        refine sw_ishl X dX4_carryOut_67 ?_
        refine sw_iconst X (v := (-1)) (by decide) dX4_carryOut_68 ?_
        refine sw_ixor X dX4_carryOut_69 ?_
        refine sw_iand X dX4_carryOut_70 ?_
        refine sw_putI X sw_cl4 (show sw_kd t = 4 from ht) (k := 11) rfl (by decide) rfl rfl wf_X4_46 dX4_carryOut_71 (fun s10 es10 => ?_)
        have h := nm_E h es10
        refine sw_goto X 127 (by decide) dX4_carryOut_74 ?_
        refine sw_sub [] rfl ?_
        exact J3 _ h
      · have h := ite_F h q9
        by_cases q11 : a1 = 2
        · have h := ite_T h q11
          refine sw_tabIn X (k := 2) (off := 76) 77 q11 (by decide) (by decide) (by decide) (by decide) dX4_carryOut_1 ?_
          refine sw_aload_n X 0 rfl rfl dX4_carryOut_77 ?_
          refine sw_aload_n X 0 rfl rfl dX4_carryOut_78 ?_
          refine sw_aload_n X 0 rfl rfl dX4_carryOut_79 ?_
          refine sw_getI X sw_cl4 (show sw_kd t = 4 from ht) (k := 7) rfl (by decide) wf_X4_34 dX4_carryOut_80 ?_
          refine jn1_E (fun (x12 : Int32) => sw_V p l e 5 s m args below meth c g (sw_A g s.heap.size) (sw_QV below g args s  st1) 3 91 [(0, .ref (g.1 t))] [.int x12, .ref (g.1 t), .ref (g.1 t)] st) h (fun x12 h => ?_) (fun k13 J14 h => ?_)
          · obtain ⟨r16, c15, h⟩ := bo_E h
            refine sw_callVI X (o := t) (As := (fun g => [.int x12])) sw_cl4 (show sw_kd t = 4 from ht) ws_X4_clockAfter (by omega) (c_X4_clockAfter F (show sw_kd t = 4 from ht) x12 st c15) rfl rfl (Nat.le_of_ble_eq_true rfl) wm_X4_83 dX4_carryOut_91 ?_
            refine sw_putI X sw_cl4 (show sw_kd t = 4 from ht) (k := 9) rfl (by decide) rfl rfl wf_X4_40 dX4_carryOut_94 (fun s17 es17 => ?_)
            have h := nm_E h es17
            refine sw_aload_n X 0 rfl rfl dX4_carryOut_97 ?_
            refine sw_aload_n X 0 rfl rfl dX4_carryOut_98 ?_
            refine sw_aload_n X 0 rfl rfl dX4_carryOut_99 ?_
            refine sw_getI X sw_cl4 (show sw_kd t = 4 from ht) (k := 7) rfl (by decide) wf_X4_34 dX4_carryOut_100 ?_
            obtain ⟨r19, c18, h⟩ := bo_E h
            refine sw_callVI X (o := t) (As := (fun g => [.int (s17.1 t 7)])) sw_cl4 (show sw_kd t = 4 from ht) ws_X4_woundNext (by omega) (c_X4_woundNext F (show sw_kd t = 4 from ht) (s17.1 t 7) s17 c18) rfl rfl (Nat.le_of_ble_eq_true rfl) wm_X4_87 dX4_carryOut_103 ?_
            refine sw_putI X sw_cl4 (show sw_kd t = 4 from ht) (k := 7) rfl (by decide) rfl rfl wf_X4_34 dX4_carryOut_106 (fun s20 es20 => ?_)
            have h := nm_E h es20
            refine sw_aload_n X 0 rfl rfl dX4_carryOut_109 ?_
            refine sw_dup X rfl dX4_carryOut_110 ?_
            refine sw_getI X sw_cl4 (show sw_kd t = 4 from ht) (k := 10) rfl (by decide) wf_X4_43 dX4_carryOut_111 ?_
            refine sw_iconst X (v := 1) (by decide) dX4_carryOut_114 ?_
            refine sw_iadd X dX4_carryOut_115 ?_
            refine sw_putI X sw_cl4 (show sw_kd t = 4 from ht) (k := 10) rfl (by decide) rfl rfl wf_X4_43 dX4_carryOut_116 (fun s21 es21 => ?_)
            have h := nm_E h es21
            refine sw_goto X 127 (by decide) dX4_carryOut_119 ?_
            refine sw_sub [] rfl ?_
            exact J3 _ h
          · refine sw_if_le X 90 (by decide) dX4_carryOut_83 (fun q22 => ?_) (fun q22 => ?_)
            · have h := ite_T h q22
              refine sw_iconst X (v := 0) (by decide) dX4_carryOut_90 ?_
              refine sw_sub [0] rfl ?_
              exact J14 _ h
            · have h := ite_F h q22
              refine sw_iconst X (v := 1) (by decide) dX4_carryOut_86 ?_
              refine sw_goto X 91 (by decide) dX4_carryOut_87 ?_
              refine sw_sub [0] rfl ?_
              exact J14 _ h
        · have h := ite_F h q11
          have n0 := lv_neT q4 (show (0 : Int32).toInt = 0 by decide)
          have n1 := lv_neT q9 (show (1 : Int32).toInt = 1 by decide)
          have n2 := lv_neT q11 (show (2 : Int32).toInt = 2 by decide)
          refine sw_tabOut X 122 (by omega) (by decide) dX4_carryOut_1 ?_
          refine sw_aload_n X 0 rfl rfl dX4_carryOut_122 ?_
          refine sw_iload_n X 2 rfl rfl dX4_carryOut_123 ?_
          refine sw_putI X sw_cl4 (show sw_kd t = 4 from ht) (k := 8) rfl (by decide) rfl rfl wf_X4_37 dX4_carryOut_124 (fun s23 es23 => ?_)
          have h := nm_E h es23
          refine sw_sub [] rfl ?_
          exact J3 _ h
theorem dX4_note_0 : decode cX4_note 0 = .ok (.aload_n 0, 1) := by decide +kernel
theorem dX4_note_1 : decode cX4_note 1 = .ok (.iconst 1, 1) := by decide +kernel
theorem dX4_note_2 : decode cX4_note 2 = .ok (.invokevirtual 68, 3) := by decide +kernel
theorem dX4_note_5 : decode cX4_note 5 = .ok (.ifCond .eq 4, 3) := by decide +kernel
theorem dX4_note_8 : decode cX4_note 8 = .ok (.return_, 1) := by decide +kernel
theorem dX4_note_9 : decode cX4_note 9 = .ok (.aload_n 0, 1) := by decide +kernel
theorem dX4_note_10 : decode cX4_note 10 = .ok (.getfield 49, 3) := by decide +kernel
theorem dX4_note_13 : decode cX4_note 13 = .ok (.aload_n 0, 1) := by decide +kernel
theorem dX4_note_14 : decode cX4_note 14 = .ok (.getfield 55, 3) := by decide +kernel
theorem dX4_note_17 : decode cX4_note 17 = .ok (.iload_n 1, 1) := by decide +kernel
theorem dX4_note_18 : decode cX4_note 18 = .ok (.iastore, 1) := by decide +kernel
theorem dX4_note_19 : decode cX4_note 19 = .ok (.aload_n 0, 1) := by decide +kernel
theorem dX4_note_20 : decode cX4_note 20 = .ok (.getfield 52, 3) := by decide +kernel
theorem dX4_note_23 : decode cX4_note 23 = .ok (.aload_n 0, 1) := by decide +kernel
theorem dX4_note_24 : decode cX4_note 24 = .ok (.getfield 55, 3) := by decide +kernel
theorem dX4_note_27 : decode cX4_note 27 = .ok (.iload_n 2, 1) := by decide +kernel
theorem dX4_note_28 : decode cX4_note 28 = .ok (.iastore, 1) := by decide +kernel
theorem dX4_note_29 : decode cX4_note 29 = .ok (.aload_n 0, 1) := by decide +kernel
theorem dX4_note_30 : decode cX4_note 30 = .ok (.dup, 1) := by decide +kernel
theorem dX4_note_31 : decode cX4_note 31 = .ok (.getfield 55, 3) := by decide +kernel
theorem dX4_note_34 : decode cX4_note 34 = .ok (.iconst 1, 1) := by decide +kernel
theorem dX4_note_35 : decode cX4_note 35 = .ok (.iadd, 1) := by decide +kernel
theorem dX4_note_36 : decode cX4_note 36 = .ok (.putfield 55, 3) := by decide +kernel
theorem dX4_note_39 : decode cX4_note 39 = .ok (.aload_n 0, 1) := by decide +kernel
theorem dX4_note_40 : decode cX4_note 40 = .ok (.iload_n 1, 1) := by decide +kernel
theorem dX4_note_41 : decode cX4_note 41 = .ok (.iload_n 2, 1) := by decide +kernel
theorem dX4_note_42 : decode cX4_note 42 = .ok (.invokevirtual 72, 3) := by decide +kernel
theorem dX4_note_45 : decode cX4_note 45 = .ok (.return_, 1) := by decide +kernel
def j_X4_note (F : Nat) (t : Nat) (a1 : Int32) (a2 : Int32) (st : sw_St) : Option (Unit × sw_St) :=
bo (j_X4_isFull F t 1 st) (fun (r2 : Int32) =>
(if r2 = 0 then (
 bnd (st.1 t 14) 40 (
 nm (sw_setC st (t + 5) ((st.1 t 14) : Int32).toNatClampNeg a1) (fun (s5 : sw_St) =>
 bnd (s5.1 t 14) 40 (
 nm (sw_setC s5 (t + 6) ((s5.1 t 14) : Int32).toNatClampNeg a2) (fun (s7 : sw_St) =>
 nm (sw_setC s7 t 14 ((s7.1 t 14) + 1)) (fun (s8 : sw_St) =>
 bd (j_X4_carryOut F t a1 a2 s8) (fun (_ : Unit) (s10 : sw_St) =>
 some ((), s10))))))))
else (
 some ((), st))))
set_option maxHeartbeats 4000000 in
set_option maxRecDepth 100000 in
theorem c_X4_note (F : Nat) {t : Nat} (ht : sw_kd t = 4) (a1 : Int32) (a2 : Int32) (st : sw_St) {st1 : sw_St} (h : j_X4_note F t a1 a2 st = some ((), st1)) : sw_CV yX4_note (.code yX4_note cX4_note 3 none) 6 (fun g => [.ref (g.1 t), .int a1, .int a2]) st  st1 := by
  refine sw_entV RX4 (fun g => [(0, .ref (g.1 t)), (1, .int a1), (2, .int a2)]) (by decide) rfl (fun _ => Nat.le_of_ble_eq_true rfl) (fun _ => rfl) ?_
  intro p l e s m args below meth c g X hr hlk
  unfold j_X4_note at h
  refine sw_aload_n X 0 rfl rfl dX4_note_0 ?_
  refine sw_iconst X (v := 1) (by decide) dX4_note_1 ?_
  obtain ⟨r2, c1, h⟩ := bo_E h
  refine sw_callVI X (o := t) (As := (fun g => [.int 1])) sw_cl4 (show sw_kd t = 4 from ht) ws_X4_isFull (by omega) (c_X4_isFull F (show sw_kd t = 4 from ht) 1 st c1) rfl rfl (Nat.le_of_ble_eq_true rfl) wm_X4_68 dX4_note_2 ?_
  refine sw_if_eq X 9 (by decide) dX4_note_5 (fun q3 => ?_) (fun q3 => ?_)
  · have h := ite_T h q3
    refine sw_aload_n X 0 rfl rfl dX4_note_9 ?_
    refine sw_getR X sw_cl4 (show sw_kd t = 4 from ht) (k := 12) rfl (by decide) (o1 := t + 5) (sw_rfT st ht : sw_rf st t 12 = t + 5) wf_X4_49 dX4_note_10 ?_
    refine sw_aload_n X 0 rfl rfl dX4_note_13 ?_
    refine sw_getI X sw_cl4 (show sw_kd t = 4 from ht) (k := 14) rfl (by decide) wf_X4_55 dX4_note_14 ?_
    refine sw_iload_n X 1 rfl rfl dX4_note_17 ?_
    obtain ⟨q4, h⟩ := bnd_E h
    refine sw_iast X (show sw_kd (t + 5) = 8 from (sw_tk5 ht)) (n := 40) (sw_tn5 ht) q4 dX4_note_18 (fun s5 es5 => ?_)
    have h := nm_E h es5
    refine sw_aload_n X 0 rfl rfl dX4_note_19 ?_
    refine sw_getR X sw_cl4 (show sw_kd t = 4 from ht) (k := 13) rfl (by decide) (o1 := t + 6) (sw_rfT s5 ht : sw_rf s5 t 13 = t + 6) wf_X4_52 dX4_note_20 ?_
    refine sw_aload_n X 0 rfl rfl dX4_note_23 ?_
    refine sw_getI X sw_cl4 (show sw_kd t = 4 from ht) (k := 14) rfl (by decide) wf_X4_55 dX4_note_24 ?_
    refine sw_iload_n X 2 rfl rfl dX4_note_27 ?_
    obtain ⟨q6, h⟩ := bnd_E h
    refine sw_iast X (show sw_kd (t + 6) = 8 from (sw_tk6 ht)) (n := 40) (sw_tn6 ht) q6 dX4_note_28 (fun s7 es7 => ?_)
    have h := nm_E h es7
    refine sw_aload_n X 0 rfl rfl dX4_note_29 ?_
    refine sw_dup X rfl dX4_note_30 ?_
    refine sw_getI X sw_cl4 (show sw_kd t = 4 from ht) (k := 14) rfl (by decide) wf_X4_55 dX4_note_31 ?_
    refine sw_iconst X (v := 1) (by decide) dX4_note_34 ?_
    refine sw_iadd X dX4_note_35 ?_
    refine sw_putI X sw_cl4 (show sw_kd t = 4 from ht) (k := 14) rfl (by decide) rfl rfl wf_X4_55 dX4_note_36 (fun s8 es8 => ?_)
    have h := nm_E h es8
    refine sw_aload_n X 0 rfl rfl dX4_note_39 ?_
    refine sw_iload_n X 1 rfl rfl dX4_note_40 ?_
    refine sw_iload_n X 2 rfl rfl dX4_note_41 ?_
    obtain ⟨u11, s10, c9, h⟩ := bd_E h
    refine sw_callVV X (o := t) (As := (fun g => [.int a1, .int a2])) sw_cl4 (show sw_kd t = 4 from ht) ws_X4_carryOut (by omega) (c_X4_carryOut F (show sw_kd t = 4 from ht) a1 a2 s8 c9) rfl rfl (Nat.le_of_ble_eq_true rfl) wm_X4_72 dX4_note_42 ?_
    exact sw_vret X hr hlk dX4_note_45 h
  · have h := ite_F h q3
    exact sw_vret X hr hlk dX4_note_8 h
theorem dX4_redo_0 : decode cX4_redo 0 = .ok (.aload_n 0, 1) := by decide +kernel
theorem dX4_redo_1 : decode cX4_redo 1 = .ok (.invokevirtual 76, 3) := by decide +kernel
theorem dX4_redo_4 : decode cX4_redo 4 = .ok (.iconst 0, 1) := by decide +kernel
theorem dX4_redo_5 : decode cX4_redo 5 = .ok (.istore_n 2, 1) := by decide +kernel
theorem dX4_redo_6 : decode cX4_redo 6 = .ok (.iload_n 2, 1) := by decide +kernel
theorem dX4_redo_7 : decode cX4_redo 7 = .ok (.iload_n 1, 1) := by decide +kernel
theorem dX4_redo_8 : decode cX4_redo 8 = .ok (.if_icmp .ge 25, 3) := by decide +kernel
theorem dX4_redo_11 : decode cX4_redo 11 = .ok (.aload_n 0, 1) := by decide +kernel
theorem dX4_redo_12 : decode cX4_redo 12 = .ok (.aload_n 0, 1) := by decide +kernel
theorem dX4_redo_13 : decode cX4_redo 13 = .ok (.getfield 49, 3) := by decide +kernel
theorem dX4_redo_16 : decode cX4_redo 16 = .ok (.iload_n 2, 1) := by decide +kernel
theorem dX4_redo_17 : decode cX4_redo 17 = .ok (.iaload, 1) := by decide +kernel
theorem dX4_redo_18 : decode cX4_redo 18 = .ok (.aload_n 0, 1) := by decide +kernel
theorem dX4_redo_19 : decode cX4_redo 19 = .ok (.getfield 52, 3) := by decide +kernel
theorem dX4_redo_22 : decode cX4_redo 22 = .ok (.iload_n 2, 1) := by decide +kernel
theorem dX4_redo_23 : decode cX4_redo 23 = .ok (.iaload, 1) := by decide +kernel
theorem dX4_redo_24 : decode cX4_redo 24 = .ok (.invokevirtual 72, 3) := by decide +kernel
theorem dX4_redo_27 : decode cX4_redo 27 = .ok (.iinc 2 1, 3) := by decide +kernel
theorem dX4_redo_30 : decode cX4_redo 30 = .ok (.goto (-24), 3) := by decide +kernel
theorem dX4_redo_33 : decode cX4_redo 33 = .ok (.aload_n 0, 1) := by decide +kernel
theorem dX4_redo_34 : decode cX4_redo 34 = .ok (.iload_n 1, 1) := by decide +kernel
theorem dX4_redo_35 : decode cX4_redo 35 = .ok (.putfield 55, 3) := by decide +kernel
theorem dX4_redo_38 : decode cX4_redo 38 = .ok (.return_, 1) := by decide +kernel
def j_X4_redo (F : Nat) (t : Nat) (a1 : Int32) (st : sw_St) : Option (Unit × sw_St) :=
bd (j_X4_begin F t st) (fun (_ : Unit) (s2 : sw_St) =>
lz2 (fun f5 (x3 : Int32) (s4 : sw_St) =>
 (if a1 ≤ x3 then (
  nm (sw_setC s4 t 14 a1) (fun (s8 : sw_St) =>
  some ((), s8)))
 else (
  bnd x3 40 (
  bnd x3 40 (
  bd (j_X4_carryOut F t (s4.1 (t + 5) (x3 : Int32).toNatClampNeg) (s4.1 (t + 6) (x3 : Int32).toNatClampNeg) s4) (fun (_ : Unit) (s12 : sw_St) =>
  nm (x3 + 1) (fun (x13 : Int32) =>
  f5 x13 s12))))))) F 0 s2)
set_option maxHeartbeats 4000000 in
set_option maxRecDepth 100000 in
theorem c_X4_redo (F : Nat) {t : Nat} (ht : sw_kd t = 4) (a1 : Int32) (st : sw_St) {st1 : sw_St} (h : j_X4_redo F t a1 st = some ((), st1)) : sw_CV yX4_redo (.code yX4_redo cX4_redo 3 none) 6 (fun g => [.ref (g.1 t), .int a1]) st  st1 := by
  refine sw_entV RX4 (fun g => [(0, .ref (g.1 t)), (1, .int a1)]) (by decide) rfl (fun _ => Nat.le_of_ble_eq_true rfl) (fun _ => rfl) ?_
  intro p l e s m args below meth c g X hr hlk
  unfold j_X4_redo at h
  refine sw_aload_n X 0 rfl rfl dX4_redo_0 ?_
  obtain ⟨u15, s2, c1, h⟩ := bd_E h
  refine sw_callVV X (o := t) (As := (fun g => [])) sw_cl4 (show sw_kd t = 4 from ht) ws_X4_begin (by omega) (c_X4_begin F (show sw_kd t = 4 from ht) st c1) rfl rfl (Nat.le_of_ble_eq_true rfl) wm_X4_76 dX4_redo_1 ?_
  refine sw_iconst X (v := 0) (by decide) dX4_redo_4 ?_
  refine sw_istore_n X [(2, .int 0), (0, .ref (g.1 t)), (1, .int a1)] rfl (by decide) rfl dX4_redo_5 ?_
  refine sw_sub [1, 2, 0] rfl ?_
  refine lz2_E (fun (x3 : Int32) (s4 : sw_St) => sw_V p l e 6 s m args below meth c g (sw_A g s.heap.size) (sw_QV below g args s  st1) 3 6 [(0, .ref (g.1 t)), (1, .int a1), (2, .int x3)] [] s4) h (fun f5 ih6 x3 s4 h => ?_)
  refine sw_iload_n X 2 rfl rfl dX4_redo_6 ?_
  refine sw_iload_n X 1 rfl rfl dX4_redo_7 ?_
  refine sw_icmp_ge X 33 (by decide) dX4_redo_8 (fun q7 => ?_) (fun q7 => ?_)
  · have h := ite_T h q7
    refine sw_aload_n X 0 rfl rfl dX4_redo_33 ?_
    refine sw_iload_n X 1 rfl rfl dX4_redo_34 ?_
    refine sw_putI X sw_cl4 (show sw_kd t = 4 from ht) (k := 14) rfl (by decide) rfl rfl wf_X4_55 dX4_redo_35 (fun s8 es8 => ?_)
    have h := nm_E h es8
    exact sw_vret X hr hlk dX4_redo_38 h
  · have h := ite_F h q7
    refine sw_aload_n X 0 rfl rfl dX4_redo_11 ?_
    refine sw_aload_n X 0 rfl rfl dX4_redo_12 ?_
    refine sw_getR X sw_cl4 (show sw_kd t = 4 from ht) (k := 12) rfl (by decide) (o1 := t + 5) (sw_rfT s4 ht : sw_rf s4 t 12 = t + 5) wf_X4_49 dX4_redo_13 ?_
    refine sw_iload_n X 2 rfl rfl dX4_redo_16 ?_
    obtain ⟨q9, h⟩ := bnd_E h
    refine sw_iald X (show sw_kd (t + 5) = 8 from (sw_tk5 ht)) (n := 40) (sw_tn5 ht) q9 dX4_redo_17 ?_
    refine sw_aload_n X 0 rfl rfl dX4_redo_18 ?_
    refine sw_getR X sw_cl4 (show sw_kd t = 4 from ht) (k := 13) rfl (by decide) (o1 := t + 6) (sw_rfT s4 ht : sw_rf s4 t 13 = t + 6) wf_X4_52 dX4_redo_19 ?_
    refine sw_iload_n X 2 rfl rfl dX4_redo_22 ?_
    obtain ⟨q10, h⟩ := bnd_E h
    refine sw_iald X (show sw_kd (t + 6) = 8 from (sw_tk6 ht)) (n := 40) (sw_tn6 ht) q10 dX4_redo_23 ?_
    obtain ⟨u14, s12, c11, h⟩ := bd_E h
    refine sw_callVV X (o := t) (As := (fun g => [.int (s4.1 (t + 5) (x3 : Int32).toNatClampNeg), .int (s4.1 (t + 6) (x3 : Int32).toNatClampNeg)])) sw_cl4 (show sw_kd t = 4 from ht) ws_X4_carryOut (by omega) (c_X4_carryOut F (show sw_kd t = 4 from ht) (s4.1 (t + 5) (x3 : Int32).toNatClampNeg) (s4.1 (t + 6) (x3 : Int32).toNatClampNeg) s4 c11) rfl rfl (Nat.le_of_ble_eq_true rfl) wm_X4_72 dX4_redo_24 ?_
    obtain ⟨x13, ex13⟩ : ∃ y : Int32, y = x3 + 1 := ⟨_, rfl⟩
    have h := nm_E h ex13
    refine sw_iinc X 2 x13 [(2, .int x13), (0, .ref (g.1 t)), (1, .int a1)] rfl (by rw [ex13]; rfl) (by decide) rfl dX4_redo_27 ?_
    refine sw_goto X 6 (by decide) dX4_redo_30 ?_
    refine sw_sub [1, 2, 0] rfl ?_
    exact ih6 _ _ h
theorem dX4_trait_0 : decode cX4_trait 0 = .ok (.iload_n 2, 1) := by decide +kernel
theorem dX4_trait_1 : decode cX4_trait 1 = .ok (.tableswitch 77 0 4 #[35, 42, 49, 56, 63], 35) := by decide +kernel
theorem dX4_trait_36 : decode cX4_trait 36 = .ok (.aload_n 0, 1) := by decide +kernel
theorem dX4_trait_37 : decode cX4_trait 37 = .ok (.getfield 15, 3) := by decide +kernel
theorem dX4_trait_40 : decode cX4_trait 40 = .ok (.iload_n 1, 1) := by decide +kernel
theorem dX4_trait_41 : decode cX4_trait 41 = .ok (.iaload, 1) := by decide +kernel
theorem dX4_trait_42 : decode cX4_trait 42 = .ok (.ireturn, 1) := by decide +kernel
theorem dX4_trait_43 : decode cX4_trait 43 = .ok (.aload_n 0, 1) := by decide +kernel
theorem dX4_trait_44 : decode cX4_trait 44 = .ok (.getfield 19, 3) := by decide +kernel
theorem dX4_trait_47 : decode cX4_trait 47 = .ok (.iload_n 1, 1) := by decide +kernel
theorem dX4_trait_48 : decode cX4_trait 48 = .ok (.iaload, 1) := by decide +kernel
theorem dX4_trait_49 : decode cX4_trait 49 = .ok (.ireturn, 1) := by decide +kernel
theorem dX4_trait_50 : decode cX4_trait 50 = .ok (.aload_n 0, 1) := by decide +kernel
theorem dX4_trait_51 : decode cX4_trait 51 = .ok (.getfield 22, 3) := by decide +kernel
theorem dX4_trait_54 : decode cX4_trait 54 = .ok (.iload_n 1, 1) := by decide +kernel
theorem dX4_trait_55 : decode cX4_trait 55 = .ok (.iaload, 1) := by decide +kernel
theorem dX4_trait_56 : decode cX4_trait 56 = .ok (.ireturn, 1) := by decide +kernel
theorem dX4_trait_57 : decode cX4_trait 57 = .ok (.aload_n 0, 1) := by decide +kernel
theorem dX4_trait_58 : decode cX4_trait 58 = .ok (.getfield 25, 3) := by decide +kernel
theorem dX4_trait_61 : decode cX4_trait 61 = .ok (.iload_n 1, 1) := by decide +kernel
theorem dX4_trait_62 : decode cX4_trait 62 = .ok (.iaload, 1) := by decide +kernel
theorem dX4_trait_63 : decode cX4_trait 63 = .ok (.ireturn, 1) := by decide +kernel
theorem dX4_trait_64 : decode cX4_trait 64 = .ok (.aload_n 0, 1) := by decide +kernel
theorem dX4_trait_65 : decode cX4_trait 65 = .ok (.iload_n 1, 1) := by decide +kernel
theorem dX4_trait_66 : decode cX4_trait 66 = .ok (.invokevirtual 94, 3) := by decide +kernel
theorem dX4_trait_69 : decode cX4_trait 69 = .ok (.ifCond .eq 7, 3) := by decide +kernel
theorem dX4_trait_72 : decode cX4_trait 72 = .ok (.iconst 1, 1) := by decide +kernel
theorem dX4_trait_73 : decode cX4_trait 73 = .ok (.goto 4, 3) := by decide +kernel
theorem dX4_trait_76 : decode cX4_trait 76 = .ok (.iconst 0, 1) := by decide +kernel
theorem dX4_trait_77 : decode cX4_trait 77 = .ok (.ireturn, 1) := by decide +kernel
theorem dX4_trait_78 : decode cX4_trait 78 = .ok (.aload_n 0, 1) := by decide +kernel
theorem dX4_trait_79 : decode cX4_trait 79 = .ok (.iload_n 1, 1) := by decide +kernel
theorem dX4_trait_80 : decode cX4_trait 80 = .ok (.aload_n 0, 1) := by decide +kernel
theorem dX4_trait_81 : decode cX4_trait 81 = .ok (.getfield 34, 3) := by decide +kernel
theorem dX4_trait_84 : decode cX4_trait 84 = .ok (.aload_n 0, 1) := by decide +kernel
theorem dX4_trait_85 : decode cX4_trait 85 = .ok (.getfield 46, 3) := by decide +kernel
theorem dX4_trait_88 : decode cX4_trait 88 = .ok (.invokevirtual 97, 3) := by decide +kernel
theorem dX4_trait_91 : decode cX4_trait 91 = .ok (.ireturn, 1) := by decide +kernel
def j_X4_trait (F : Nat) (t : Nat) (a1 : Int32) (a2 : Int32) (st : sw_St) : Option Int32 :=
(if a2 = 0 then (
 bnd a1 6 (
 some (st.1 (t + 1) (a1 : Int32).toNatClampNeg)))
else (
 (if a2 = 1 then (
  bnd a1 6 (
  some (st.1 (t + 2) (a1 : Int32).toNatClampNeg)))
 else (
  (if a2 = 2 then (
   bnd a1 6 (
   some (st.1 (t + 3) (a1 : Int32).toNatClampNeg)))
  else (
   (if a2 = 3 then (
    bnd a1 6 (
    some (st.1 (t + 4) (a1 : Int32).toNatClampNeg)))
   else (
    (if a2 = 4 then (
     bo (j_X4_isIn F t a1 st) (fun (r11 : Int32) =>
     jn (fun (x12 : Int32) => 
       some x12) (fun k13 =>
      (if r11 = 0 then (
       k13 0)
      else (
       k13 1)))))
    else (
     bo (j_X4_turns F t a1 (st.1 t 7) (st.1 t 11) st) (fun (r17 : Int32) =>
     some r17)))))))))))
set_option maxHeartbeats 4000000 in
set_option maxRecDepth 100000 in
theorem c_X4_trait (F : Nat) {t : Nat} (ht : sw_kd t = 4) (a1 : Int32) (a2 : Int32) (st : sw_St) {r : Int32} (h : j_X4_trait F t a1 a2 st = some r) : sw_CI yX4_trait (.code yX4_trait cX4_trait 3 (some .int)) 4 (fun g => [.ref (g.1 t), .int a1, .int a2]) st r st := by
  refine sw_entI RX4 (fun g => [(0, .ref (g.1 t)), (1, .int a1), (2, .int a2)]) (by decide) rfl (fun _ => Nat.le_of_ble_eq_true rfl) (fun _ => rfl) ?_
  intro p l e s m args below meth c g X hr hlk
  unfold j_X4_trait at h
  refine sw_iload_n X 2 rfl rfl dX4_trait_0 ?_
  by_cases q1 : a2 = 0
  · have h := ite_T h q1
    refine sw_tabIn X (k := 0) (off := 35) 36 q1 (by decide) (by decide) (by decide) (by decide) dX4_trait_1 ?_
    refine sw_aload_n X 0 rfl rfl dX4_trait_36 ?_
    refine sw_getR X sw_cl4 (show sw_kd t = 4 from ht) (k := 1) rfl (by decide) (o1 := t + 1) (sw_rfT st ht : sw_rf st t 1 = t + 1) wf_X4_15 dX4_trait_37 ?_
    refine sw_iload_n X 1 rfl rfl dX4_trait_40 ?_
    obtain ⟨q2, h⟩ := bnd_E h
    refine sw_iald X (show sw_kd (t + 1) = 8 from (sw_tk1 ht)) (n := 6) (sw_tn1 ht) q2 dX4_trait_41 ?_
    exact sw_iret X hr hlk dX4_trait_42 (by cases h; rfl)
  · have h := ite_F h q1
    by_cases q3 : a2 = 1
    · have h := ite_T h q3
      refine sw_tabIn X (k := 1) (off := 42) 43 q3 (by decide) (by decide) (by decide) (by decide) dX4_trait_1 ?_
      refine sw_aload_n X 0 rfl rfl dX4_trait_43 ?_
      refine sw_getR X sw_cl4 (show sw_kd t = 4 from ht) (k := 2) rfl (by decide) (o1 := t + 2) (sw_rfT st ht : sw_rf st t 2 = t + 2) wf_X4_19 dX4_trait_44 ?_
      refine sw_iload_n X 1 rfl rfl dX4_trait_47 ?_
      obtain ⟨q4, h⟩ := bnd_E h
      refine sw_iald X (show sw_kd (t + 2) = 8 from (sw_tk2 ht)) (n := 6) (sw_tn2 ht) q4 dX4_trait_48 ?_
      exact sw_iret X hr hlk dX4_trait_49 (by cases h; rfl)
    · have h := ite_F h q3
      by_cases q5 : a2 = 2
      · have h := ite_T h q5
        refine sw_tabIn X (k := 2) (off := 49) 50 q5 (by decide) (by decide) (by decide) (by decide) dX4_trait_1 ?_
        refine sw_aload_n X 0 rfl rfl dX4_trait_50 ?_
        refine sw_getR X sw_cl4 (show sw_kd t = 4 from ht) (k := 3) rfl (by decide) (o1 := t + 3) (sw_rfT st ht : sw_rf st t 3 = t + 3) wf_X4_22 dX4_trait_51 ?_
        refine sw_iload_n X 1 rfl rfl dX4_trait_54 ?_
        obtain ⟨q6, h⟩ := bnd_E h
        refine sw_iald X (show sw_kd (t + 3) = 8 from (sw_tk3 ht)) (n := 6) (sw_tn3 ht) q6 dX4_trait_55 ?_
        exact sw_iret X hr hlk dX4_trait_56 (by cases h; rfl)
      · have h := ite_F h q5
        by_cases q7 : a2 = 3
        · have h := ite_T h q7
          refine sw_tabIn X (k := 3) (off := 56) 57 q7 (by decide) (by decide) (by decide) (by decide) dX4_trait_1 ?_
          refine sw_aload_n X 0 rfl rfl dX4_trait_57 ?_
          refine sw_getR X sw_cl4 (show sw_kd t = 4 from ht) (k := 4) rfl (by decide) (o1 := t + 4) (sw_rfT st ht : sw_rf st t 4 = t + 4) wf_X4_25 dX4_trait_58 ?_
          refine sw_iload_n X 1 rfl rfl dX4_trait_61 ?_
          obtain ⟨q8, h⟩ := bnd_E h
          refine sw_iald X (show sw_kd (t + 4) = 8 from (sw_tk4 ht)) (n := 6) (sw_tn4 ht) q8 dX4_trait_62 ?_
          exact sw_iret X hr hlk dX4_trait_63 (by cases h; rfl)
        · have h := ite_F h q7
          by_cases q9 : a2 = 4
          · have h := ite_T h q9
            refine sw_tabIn X (k := 4) (off := 63) 64 q9 (by decide) (by decide) (by decide) (by decide) dX4_trait_1 ?_
            refine sw_aload_n X 0 rfl rfl dX4_trait_64 ?_
            refine sw_iload_n X 1 rfl rfl dX4_trait_65 ?_
            obtain ⟨r11, c10, h⟩ := bo_E h
            refine sw_callVI X (o := t) (As := (fun g => [.int a1])) sw_cl4 (show sw_kd t = 4 from ht) ws_X4_isIn (by omega) (c_X4_isIn F (show sw_kd t = 4 from ht) a1 st c10) rfl rfl (Nat.le_of_ble_eq_true rfl) wm_X4_94 dX4_trait_66 ?_
            refine jn1_E (fun (x12 : Int32) => sw_V p l e 4 s m args below meth c g (sw_A g s.heap.size) (sw_QI below g args s r st) 3 77 [] [.int x12] st) h (fun x12 h => ?_) (fun k13 J14 h => ?_)
            · exact sw_iret X hr hlk dX4_trait_77 (by cases h; rfl)
            · refine sw_if_eq X 76 (by decide) dX4_trait_69 (fun q15 => ?_) (fun q15 => ?_)
              · have h := ite_T h q15
                refine sw_iconst X (v := 0) (by decide) dX4_trait_76 ?_
                refine sw_sub [] rfl ?_
                exact J14 _ h
              · have h := ite_F h q15
                refine sw_iconst X (v := 1) (by decide) dX4_trait_72 ?_
                refine sw_goto X 77 (by decide) dX4_trait_73 ?_
                refine sw_sub [] rfl ?_
                exact J14 _ h
          · have h := ite_F h q9
            have n0 := lv_neT q1 (show (0 : Int32).toInt = 0 by decide)
            have n1 := lv_neT q3 (show (1 : Int32).toInt = 1 by decide)
            have n2 := lv_neT q5 (show (2 : Int32).toInt = 2 by decide)
            have n3 := lv_neT q7 (show (3 : Int32).toInt = 3 by decide)
            have n4 := lv_neT q9 (show (4 : Int32).toInt = 4 by decide)
            refine sw_tabOut X 78 (by omega) (by decide) dX4_trait_1 ?_
            refine sw_aload_n X 0 rfl rfl dX4_trait_78 ?_
            refine sw_iload_n X 1 rfl rfl dX4_trait_79 ?_
            refine sw_aload_n X 0 rfl rfl dX4_trait_80 ?_
            refine sw_getI X sw_cl4 (show sw_kd t = 4 from ht) (k := 7) rfl (by decide) wf_X4_34 dX4_trait_81 ?_
            refine sw_aload_n X 0 rfl rfl dX4_trait_84 ?_
            refine sw_getI X sw_cl4 (show sw_kd t = 4 from ht) (k := 11) rfl (by decide) wf_X4_46 dX4_trait_85 ?_
            obtain ⟨r17, c16, h⟩ := bo_E h
            refine sw_callVI X (o := t) (As := (fun g => [.int a1, .int (st.1 t 7), .int (st.1 t 11)])) sw_cl4 (show sw_kd t = 4 from ht) ws_X4_turns (by omega) (c_X4_turns F (show sw_kd t = 4 from ht) a1 (st.1 t 7) (st.1 t 11) st c16) rfl rfl (Nat.le_of_ble_eq_true rfl) wm_X4_97 dX4_trait_88 ?_
            exact sw_iret X hr hlk dX4_trait_91 (by cases h; rfl)
theorem dX4_markOf_0 : decode cX4_markOf 0 = .ok (.iconst 1, 1) := by decide +kernel
theorem dX4_markOf_1 : decode cX4_markOf 1 = .ok (.iload_n 1, 1) := by decide +kernel
theorem dX4_markOf_2 : decode cX4_markOf 2 = .ok (.ishl, 1) := by decide +kernel
theorem dX4_markOf_3 : decode cX4_markOf 3 = .ok (.iconst (-1), 1) := by decide +kernel
theorem dX4_markOf_4 : decode cX4_markOf 4 = .ok (.ixor, 1) := by decide +kernel
theorem dX4_markOf_5 : decode cX4_markOf 5 = .ok (.istore_n 3, 1) := by decide +kernel
theorem dX4_markOf_6 : decode cX4_markOf 6 = .ok (.iload_n 2, 1) := by decide +kernel
theorem dX4_markOf_7 : decode cX4_markOf 7 = .ok (.tableswitch 72 1 4 #[29, 38, 49, 60], 29) := by decide +kernel
theorem dX4_markOf_36 : decode cX4_markOf 36 = .ok (.aload_n 0, 1) := by decide +kernel
theorem dX4_markOf_37 : decode cX4_markOf 37 = .ok (.getfield 19, 3) := by decide +kernel
theorem dX4_markOf_40 : decode cX4_markOf 40 = .ok (.iload_n 1, 1) := by decide +kernel
theorem dX4_markOf_41 : decode cX4_markOf 41 = .ok (.iaload, 1) := by decide +kernel
theorem dX4_markOf_42 : decode cX4_markOf 42 = .ok (.iconst 2, 1) := by decide +kernel
theorem dX4_markOf_43 : decode cX4_markOf 43 = .ok (.idiv, 1) := by decide +kernel
theorem dX4_markOf_44 : decode cX4_markOf 44 = .ok (.ireturn, 1) := by decide +kernel
theorem dX4_markOf_45 : decode cX4_markOf 45 = .ok (.iconst 4, 1) := by decide +kernel
theorem dX4_markOf_46 : decode cX4_markOf 46 = .ok (.aload_n 0, 1) := by decide +kernel
theorem dX4_markOf_47 : decode cX4_markOf 47 = .ok (.getfield 19, 3) := by decide +kernel
theorem dX4_markOf_50 : decode cX4_markOf 50 = .ok (.iload_n 1, 1) := by decide +kernel
theorem dX4_markOf_51 : decode cX4_markOf 51 = .ok (.iaload, 1) := by decide +kernel
theorem dX4_markOf_52 : decode cX4_markOf 52 = .ok (.iconst 4, 1) := by decide +kernel
theorem dX4_markOf_53 : decode cX4_markOf 53 = .ok (.irem, 1) := by decide +kernel
theorem dX4_markOf_54 : decode cX4_markOf 54 = .ok (.isub, 1) := by decide +kernel
theorem dX4_markOf_55 : decode cX4_markOf 55 = .ok (.ireturn, 1) := by decide +kernel
theorem dX4_markOf_56 : decode cX4_markOf 56 = .ok (.aload_n 0, 1) := by decide +kernel
theorem dX4_markOf_57 : decode cX4_markOf 57 = .ok (.iconst 3, 1) := by decide +kernel
theorem dX4_markOf_58 : decode cX4_markOf 58 = .ok (.invokevirtual 100, 3) := by decide +kernel
theorem dX4_markOf_61 : decode cX4_markOf 61 = .ok (.iload_n 3, 1) := by decide +kernel
theorem dX4_markOf_62 : decode cX4_markOf 62 = .ok (.iand, 1) := by decide +kernel
theorem dX4_markOf_63 : decode cX4_markOf 63 = .ok (.invokestatic 103, 3) := by decide +kernel
theorem dX4_markOf_66 : decode cX4_markOf 66 = .ok (.ireturn, 1) := by decide +kernel
theorem dX4_markOf_67 : decode cX4_markOf 67 = .ok (.iconst 0, 1) := by decide +kernel
theorem dX4_markOf_68 : decode cX4_markOf 68 = .ok (.aload_n 0, 1) := by decide +kernel
theorem dX4_markOf_69 : decode cX4_markOf 69 = .ok (.getfield 34, 3) := by decide +kernel
theorem dX4_markOf_72 : decode cX4_markOf 72 = .ok (.bipush 40, 2) := by decide +kernel
theorem dX4_markOf_74 : decode cX4_markOf 74 = .ok (.isub, 1) := by decide +kernel
theorem dX4_markOf_75 : decode cX4_markOf 75 = .ok (.invokestatic 108, 3) := by decide +kernel
theorem dX4_markOf_78 : decode cX4_markOf 78 = .ok (.ireturn, 1) := by decide +kernel
theorem dX4_markOf_79 : decode cX4_markOf 79 = .ok (.aload_n 0, 1) := by decide +kernel
theorem dX4_markOf_80 : decode cX4_markOf 80 = .ok (.getfield 46, 3) := by decide +kernel
theorem dX4_markOf_83 : decode cX4_markOf 83 = .ok (.iload_n 3, 1) := by decide +kernel
theorem dX4_markOf_84 : decode cX4_markOf 84 = .ok (.iand, 1) := by decide +kernel
theorem dX4_markOf_85 : decode cX4_markOf 85 = .ok (.invokestatic 103, 3) := by decide +kernel
theorem dX4_markOf_88 : decode cX4_markOf 88 = .ok (.ireturn, 1) := by decide +kernel
def j_X4_markOf (F : Nat) (t : Nat) (a1 : Int32) (a2 : Int32) (st : sw_St) : Option Int32 :=
nm ((1 <<< (a1 &&& 31)) ^^^ (-1)) (fun (x1 : Int32) =>
(if a2 = 1 then (
 bnd a1 6 (
 some ((st.1 (t + 2) (a1 : Int32).toNatClampNeg) / 2)))
else (
 (if a2 = 2 then (
  bnd a1 6 (
  some (4 - ((st.1 (t + 2) (a1 : Int32).toNatClampNeg) - (st.1 (t + 2) (a1 : Int32).toNatClampNeg) / 4 * 4))))
 else (
  (if a2 = 3 then (
   bo (j_X4_allOf F t 3 st) (fun (r8 : Int32) =>
   bo (j_J6_bitCount_0f7a4 F (r8 &&& x1) st) (fun (r10 : Int32) =>
   some r10)))
  else (
   (if a2 = 4 then (
    some (if 0 < ((st.1 t 7) - 40) then ((st.1 t 7) - 40) else 0))
   else (
    bo (j_J6_bitCount_0f7a4 F ((st.1 t 11) &&& x1) st) (fun (r13 : Int32) =>
    some r13))))))))))
set_option maxHeartbeats 4000000 in
set_option maxRecDepth 100000 in
theorem c_X4_markOf (F : Nat) {t : Nat} (ht : sw_kd t = 4) (a1 : Int32) (a2 : Int32) (st : sw_St) {r : Int32} (h : j_X4_markOf F t a1 a2 st = some r) : sw_CI yX4_markOf (.code yX4_markOf cX4_markOf 4 (some .int)) 3 (fun g => [.ref (g.1 t), .int a1, .int a2]) st r st := by
  refine sw_entI RX4 (fun g => [(0, .ref (g.1 t)), (1, .int a1), (2, .int a2)]) (by decide) rfl (fun _ => Nat.le_of_ble_eq_true rfl) (fun _ => rfl) ?_
  intro p l e s m args below meth c g X hr hlk
  unfold j_X4_markOf at h
  refine sw_iconst X (v := 1) (by decide) dX4_markOf_0 ?_
  refine sw_iload_n X 1 rfl rfl dX4_markOf_1 ?_
  refine sw_ishl X dX4_markOf_2 ?_
  refine sw_iconst X (v := (-1)) (by decide) dX4_markOf_3 ?_
  refine sw_ixor X dX4_markOf_4 ?_
  refine sw_topi (fun x1 ex1 => ?_)
  have h := nm_E h ex1
  refine sw_istore_n X [(3, .int x1), (0, .ref (g.1 t)), (1, .int a1), (2, .int a2)] rfl (by decide) rfl dX4_markOf_5 ?_
  refine sw_iload_n X 3 rfl rfl dX4_markOf_6 ?_
  by_cases q2 : a2 = 1
  · have h := ite_T h q2
    refine sw_tabIn X (k := 1) (off := 29) 36 q2 (by decide) (by decide) (by decide) (by decide) dX4_markOf_7 ?_
    refine sw_aload_n X 1 rfl rfl dX4_markOf_36 ?_
    refine sw_getR X sw_cl4 (show sw_kd t = 4 from ht) (k := 2) rfl (by decide) (o1 := t + 2) (sw_rfT st ht : sw_rf st t 2 = t + 2) wf_X4_19 dX4_markOf_37 ?_
    refine sw_iload_n X 2 rfl rfl dX4_markOf_40 ?_
    obtain ⟨q3, h⟩ := bnd_E h
    refine sw_iald X (show sw_kd (t + 2) = 8 from (sw_tk2 ht)) (n := 6) (sw_tn2 ht) q3 dX4_markOf_41 ?_
    refine sw_iconst X (v := 2) (by decide) dX4_markOf_42 ?_
    refine sw_idiv X (by decide) dX4_markOf_43 ?_
    exact sw_iret X hr hlk dX4_markOf_44 (by cases h; rfl)
  · have h := ite_F h q2
    by_cases q4 : a2 = 2
    · have h := ite_T h q4
      refine sw_tabIn X (k := 2) (off := 38) 45 q4 (by decide) (by decide) (by decide) (by decide) dX4_markOf_7 ?_
      refine sw_iconst X (v := 4) (by decide) dX4_markOf_45 ?_
      refine sw_aload_n X 1 rfl rfl dX4_markOf_46 ?_
      refine sw_getR X sw_cl4 (show sw_kd t = 4 from ht) (k := 2) rfl (by decide) (o1 := t + 2) (sw_rfT st ht : sw_rf st t 2 = t + 2) wf_X4_19 dX4_markOf_47 ?_
      refine sw_iload_n X 2 rfl rfl dX4_markOf_50 ?_
      obtain ⟨q5, h⟩ := bnd_E h
      refine sw_iald X (show sw_kd (t + 2) = 8 from (sw_tk2 ht)) (n := 6) (sw_tn2 ht) q5 dX4_markOf_51 ?_
      refine sw_iconst X (v := 4) (by decide) dX4_markOf_52 ?_
      refine sw_irem X (by decide) dX4_markOf_53 ?_
      refine sw_isub X dX4_markOf_54 ?_
      exact sw_iret X hr hlk dX4_markOf_55 (by cases h; rfl)
    · have h := ite_F h q4
      by_cases q6 : a2 = 3
      · have h := ite_T h q6
        refine sw_tabIn X (k := 3) (off := 49) 56 q6 (by decide) (by decide) (by decide) (by decide) dX4_markOf_7 ?_
        refine sw_aload_n X 1 rfl rfl dX4_markOf_56 ?_
        refine sw_iconst X (v := 3) (by decide) dX4_markOf_57 ?_
        obtain ⟨r8, c7, h⟩ := bo_E h
        refine sw_callVI X (o := t) (As := (fun g => [.int 3])) sw_cl4 (show sw_kd t = 4 from ht) ws_X4_allOf (by omega) (c_X4_allOf F (show sw_kd t = 4 from ht) 3 st c7) rfl rfl (Nat.le_of_ble_eq_true rfl) wm_X4_100 dX4_markOf_58 ?_
        refine sw_iload_n X 0 rfl rfl dX4_markOf_61 ?_
        refine sw_iand X dX4_markOf_62 ?_
        obtain ⟨r10, c9, h⟩ := bo_E h
        refine sw_callSI X (As := (fun g => [.int (r8 &&& x1)])) ws_J6_bitCount_0f7a4 (by omega) (c_J6_bitCount_0f7a4 F (r8 &&& x1) st c9) rfl rfl (Nat.le_of_ble_eq_true rfl) wm_X4_103 dX4_markOf_63 ?_
        exact sw_iret X hr hlk dX4_markOf_66 (by cases h; rfl)
      · have h := ite_F h q6
        by_cases q11 : a2 = 4
        · have h := ite_T h q11
          refine sw_tabIn X (k := 4) (off := 60) 67 q11 (by decide) (by decide) (by decide) (by decide) dX4_markOf_7 ?_
          refine sw_iconst X (v := 0) (by decide) dX4_markOf_67 ?_
          refine sw_aload_n X 1 rfl rfl dX4_markOf_68 ?_
          refine sw_getI X sw_cl4 (show sw_kd t = 4 from ht) (k := 7) rfl (by decide) wf_X4_34 dX4_markOf_69 ?_
          refine sw_bipush X (v := 40) (by decide) dX4_markOf_72 ?_
          refine sw_isub X dX4_markOf_74 ?_
          refine sw_mmax X wm_X4_108 ws_max.1 ws_max.2.1 ws_max.2.2 (by omega) (Nat.le_of_ble_eq_true rfl) dX4_markOf_75 ?_
          exact sw_iret X hr hlk dX4_markOf_78 (by cases h; rfl)
        · have h := ite_F h q11
          have n0 := lv_neT q2 (show (1 : Int32).toInt = 1 by decide)
          have n1 := lv_neT q4 (show (2 : Int32).toInt = 2 by decide)
          have n2 := lv_neT q6 (show (3 : Int32).toInt = 3 by decide)
          have n3 := lv_neT q11 (show (4 : Int32).toInt = 4 by decide)
          refine sw_tabOut X 79 (by omega) (by decide) dX4_markOf_7 ?_
          refine sw_aload_n X 1 rfl rfl dX4_markOf_79 ?_
          refine sw_getI X sw_cl4 (show sw_kd t = 4 from ht) (k := 11) rfl (by decide) wf_X4_46 dX4_markOf_80 ?_
          refine sw_iload_n X 0 rfl rfl dX4_markOf_83 ?_
          refine sw_iand X dX4_markOf_84 ?_
          obtain ⟨r13, c12, h⟩ := bo_E h
          refine sw_callSI X (As := (fun g => [.int ((st.1 t 11) &&& x1)])) ws_J6_bitCount_0f7a4 (by omega) (c_J6_bitCount_0f7a4 F ((st.1 t 11) &&& x1) st c12) rfl rfl (Nat.le_of_ble_eq_true rfl) wm_X4_103 dX4_markOf_85 ?_
          exact sw_iret X hr hlk dX4_markOf_88 (by cases h; rfl)
theorem dX4_hoursLeft_0 : decode cX4_hoursLeft 0 = .ok (.iload_n 1, 1) := by decide +kernel
theorem dX4_hoursLeft_1 : decode cX4_hoursLeft 1 = .ok (.aload_n 0, 1) := by decide +kernel
theorem dX4_hoursLeft_2 : decode cX4_hoursLeft 2 = .ok (.getfield 37, 3) := by decide +kernel
theorem dX4_hoursLeft_5 : decode cX4_hoursLeft 5 = .ok (.iadd, 1) := by decide +kernel
theorem dX4_hoursLeft_6 : decode cX4_hoursLeft 6 = .ok (.iconst 1, 1) := by decide +kernel
theorem dX4_hoursLeft_7 : decode cX4_hoursLeft 7 = .ok (.aload_n 0, 1) := by decide +kernel
theorem dX4_hoursLeft_8 : decode cX4_hoursLeft 8 = .ok (.getfield 37, 3) := by decide +kernel
theorem dX4_hoursLeft_11 : decode cX4_hoursLeft 11 = .ok (.iadd, 1) := by decide +kernel
theorem dX4_hoursLeft_12 : decode cX4_hoursLeft 12 = .ok (.idiv, 1) := by decide +kernel
theorem dX4_hoursLeft_13 : decode cX4_hoursLeft 13 = .ok (.ireturn, 1) := by decide +kernel
def j_X4_hoursLeft (F : Nat) (t : Nat) (a1 : Int32) (st : sw_St) : Option Int32 :=
grd (¬ (1 + (st.1 t 8)) = 0) (
some ((a1 + (st.1 t 8)) / (1 + (st.1 t 8))))
set_option maxHeartbeats 4000000 in
set_option maxRecDepth 100000 in
theorem c_X4_hoursLeft (F : Nat) {t : Nat} (ht : sw_kd t = 4) (a1 : Int32) (st : sw_St) {r : Int32} (h : j_X4_hoursLeft F t a1 st = some r) : sw_CI yX4_hoursLeft (.code yX4_hoursLeft cX4_hoursLeft 2 (some .int)) 1 (fun g => [.ref (g.1 t), .int a1]) st r st := by
  refine sw_entI RX4 (fun g => [(0, .ref (g.1 t)), (1, .int a1)]) (by decide) rfl (fun _ => Nat.le_of_ble_eq_true rfl) (fun _ => rfl) ?_
  intro p l e s m args below meth c g X hr hlk
  unfold j_X4_hoursLeft at h
  refine sw_iload_n X 1 rfl rfl dX4_hoursLeft_0 ?_
  refine sw_aload_n X 0 rfl rfl dX4_hoursLeft_1 ?_
  refine sw_getI X sw_cl4 (show sw_kd t = 4 from ht) (k := 8) rfl (by decide) wf_X4_37 dX4_hoursLeft_2 ?_
  refine sw_iadd X dX4_hoursLeft_5 ?_
  refine sw_iconst X (v := 1) (by decide) dX4_hoursLeft_6 ?_
  refine sw_aload_n X 0 rfl rfl dX4_hoursLeft_7 ?_
  refine sw_getI X sw_cl4 (show sw_kd t = 4 from ht) (k := 8) rfl (by decide) wf_X4_37 dX4_hoursLeft_8 ?_
  refine sw_iadd X dX4_hoursLeft_11 ?_
  obtain ⟨q1, h⟩ := grd_E h
  refine sw_idiv X q1 dX4_hoursLeft_12 ?_
  exact sw_iret X hr hlk dX4_hoursLeft_13 (by cases h; rfl)
theorem dX4_weight_0 : decode cX4_weight 0 = .ok (.lconst 1, 1) := by decide +kernel
theorem dX4_weight_1 : decode cX4_weight 1 = .ok (.lstore_n 3, 1) := by decide +kernel
theorem dX4_weight_2 : decode cX4_weight 2 = .ok (.iconst 0, 1) := by decide +kernel
theorem dX4_weight_3 : decode cX4_weight 3 = .ok (.istore 5, 2) := by decide +kernel
theorem dX4_weight_5 : decode cX4_weight 5 = .ok (.iload 5, 2) := by decide +kernel
theorem dX4_weight_7 : decode cX4_weight 7 = .ok (.aload_n 0, 1) := by decide +kernel
theorem dX4_weight_8 : decode cX4_weight 8 = .ok (.getfield 9, 3) := by decide +kernel
theorem dX4_weight_11 : decode cX4_weight 11 = .ok (.if_icmp .ge 41, 3) := by decide +kernel
theorem dX4_weight_14 : decode cX4_weight 14 = .ok (.aload_n 0, 1) := by decide +kernel
theorem dX4_weight_15 : decode cX4_weight 15 = .ok (.iload 5, 2) := by decide +kernel
theorem dX4_weight_17 : decode cX4_weight 17 = .ok (.invokevirtual 94, 3) := by decide +kernel
theorem dX4_weight_20 : decode cX4_weight 20 = .ok (.ifCond .ne 26, 3) := by decide +kernel
theorem dX4_weight_23 : decode cX4_weight 23 = .ok (.lload_n 3, 1) := by decide +kernel
theorem dX4_weight_24 : decode cX4_weight 24 = .ok (.iload_n 1, 1) := by decide +kernel
theorem dX4_weight_25 : decode cX4_weight 25 = .ok (.iload 5, 2) := by decide +kernel
theorem dX4_weight_27 : decode cX4_weight 27 = .ok (.ishr, 1) := by decide +kernel
theorem dX4_weight_28 : decode cX4_weight 28 = .ok (.iconst 1, 1) := by decide +kernel
theorem dX4_weight_29 : decode cX4_weight 29 = .ok (.iand, 1) := by decide +kernel
theorem dX4_weight_30 : decode cX4_weight 30 = .ok (.iconst 1, 1) := by decide +kernel
theorem dX4_weight_31 : decode cX4_weight 31 = .ok (.if_icmp .ne 8, 3) := by decide +kernel
theorem dX4_weight_34 : decode cX4_weight 34 = .ok (.iload_n 2, 1) := by decide +kernel
theorem dX4_weight_35 : decode cX4_weight 35 = .ok (.i2l, 1) := by decide +kernel
theorem dX4_weight_36 : decode cX4_weight 36 = .ok (.goto 8, 3) := by decide +kernel
theorem dX4_weight_39 : decode cX4_weight 39 = .ok (.bipush 12, 2) := by decide +kernel
theorem dX4_weight_41 : decode cX4_weight 41 = .ok (.iload_n 2, 1) := by decide +kernel
theorem dX4_weight_42 : decode cX4_weight 42 = .ok (.isub, 1) := by decide +kernel
theorem dX4_weight_43 : decode cX4_weight 43 = .ok (.i2l, 1) := by decide +kernel
theorem dX4_weight_44 : decode cX4_weight 44 = .ok (.lmul, 1) := by decide +kernel
theorem dX4_weight_45 : decode cX4_weight 45 = .ok (.lstore_n 3, 1) := by decide +kernel
theorem dX4_weight_46 : decode cX4_weight 46 = .ok (.iinc 5 1, 3) := by decide +kernel
theorem dX4_weight_49 : decode cX4_weight 49 = .ok (.goto (-44), 3) := by decide +kernel
theorem dX4_weight_52 : decode cX4_weight 52 = .ok (.lload_n 3, 1) := by decide +kernel
theorem dX4_weight_53 : decode cX4_weight 53 = .ok (.lreturn, 1) := by decide +kernel
def j_X4_weight (F : Nat) (t : Nat) (a1 : Int32) (a2 : Int32) (st : sw_St) : Option Int64 :=
lz2 (fun f3 (x1 : Int64) (x2 : Int32) =>
 (if (st.1 t 0) ≤ x2 then (
  some x1)
 else (
  bo (j_X4_isIn F t x2 st) (fun (r7 : Int32) =>
  jn (fun (x8 : Int64) => 
    nm (x2 + 1) (fun (x11 : Int32) =>
    f3 x8 x11)) (fun k9 =>
   (if r7 = 0 then (
    jn (fun (x13 : Int64) => 
      nm (x1 * x13) (fun (x16 : Int64) =>
      k9 x16)) (fun k14 =>
     (if ((a1 >>> (x2 &&& 31)) &&& 1) = 1 then (
      k14 ((a2 : Int32).toInt64))
     else (
      k14 (((12 - a2) : Int32).toInt64)))))
   else (
    k9 x1))))))) F 1 0
set_option maxHeartbeats 4000000 in
set_option maxRecDepth 100000 in
theorem c_X4_weight (F : Nat) {t : Nat} (ht : sw_kd t = 4) (a1 : Int32) (a2 : Int32) (st : sw_St) {r : Int64} (h : j_X4_weight F t a1 a2 st = some r) : sw_CL yX4_weight (.code yX4_weight cX4_weight 6 (some .long)) 2 (fun g => [.ref (g.1 t), .int a1, .int a2]) st r st := by
  refine sw_entL RX4 (fun g => [(0, .ref (g.1 t)), (1, .int a1), (2, .int a2)]) (by decide) rfl (fun _ => Nat.le_of_ble_eq_true rfl) (fun _ => rfl) ?_
  intro p l e s m args below meth c g X hr hlk
  unfold j_X4_weight at h
  refine sw_lconst X (v := 1) (by decide) dX4_weight_0 ?_
  refine sw_lstore_n X [(3, .long 1), (0, .ref (g.1 t)), (1, .int a1), (2, .int a2)] rfl (by decide) rfl dX4_weight_1 ?_
  refine sw_iconst X (v := 0) (by decide) dX4_weight_2 ?_
  refine sw_istore X [(5, .int 0), (3, .long 1), (0, .ref (g.1 t)), (1, .int a1), (2, .int a2)] (by decide) rfl dX4_weight_3 ?_
  refine sw_sub [2, 3, 4, 1, 0] rfl ?_
  refine lz2_E (fun (x1 : Int64) (x2 : Int32) => sw_V p l e 2 s m args below meth c g (sw_A g s.heap.size) (sw_QL below g args s r st) 6 5 [(0, .ref (g.1 t)), (1, .int a1), (2, .int a2), (3, .long x1), (5, .int x2)] [] st) h (fun f3 ih4 x1 x2 h => ?_)
  refine sw_iload X 4 rfl dX4_weight_5 ?_
  refine sw_aload_n X 0 rfl rfl dX4_weight_7 ?_
  refine sw_getI X sw_cl4 (show sw_kd t = 4 from ht) (k := 0) rfl (by decide) wf_X4_9 dX4_weight_8 ?_
  refine sw_icmp_ge X 52 (by decide) dX4_weight_11 (fun q5 => ?_) (fun q5 => ?_)
  · have h := ite_T h q5
    refine sw_lload_n X 3 rfl rfl dX4_weight_52 ?_
    exact sw_lret X hr hlk dX4_weight_53 (by cases h; rfl)
  · have h := ite_F h q5
    refine sw_aload_n X 0 rfl rfl dX4_weight_14 ?_
    refine sw_iload X 4 rfl dX4_weight_15 ?_
    obtain ⟨r7, c6, h⟩ := bo_E h
    refine sw_callVI X (o := t) (As := (fun g => [.int x2])) sw_cl4 (show sw_kd t = 4 from ht) ws_X4_isIn (by omega) (c_X4_isIn F (show sw_kd t = 4 from ht) x2 st c6) rfl rfl (Nat.le_of_ble_eq_true rfl) wm_X4_94 dX4_weight_17 ?_
    refine jn1_E (fun (x8 : Int64) => sw_V p l e 2 s m args below meth c g (sw_A g s.heap.size) (sw_QL below g args s r st) 6 46 [(0, .ref (g.1 t)), (1, .int a1), (2, .int a2), (3, .long x8), (5, .int x2)] [] st) h (fun x8 h => ?_) (fun k9 J10 h => ?_)
    · obtain ⟨x11, ex11⟩ : ∃ y : Int32, y = x2 + 1 := ⟨_, rfl⟩
      have h := nm_E h ex11
      refine sw_iinc X 4 x11 [(5, .int x11), (0, .ref (g.1 t)), (1, .int a1), (2, .int a2), (3, .long x8)] rfl (by rw [ex11]; rfl) (by decide) rfl dX4_weight_46 ?_
      refine sw_goto X 5 (by decide) dX4_weight_49 ?_
      refine sw_sub [1, 2, 3, 4, 0] rfl ?_
      exact ih4 _ _ h
    · refine sw_if_ne X 46 (by decide) dX4_weight_20 (fun q12 => ?_) (fun q12 => ?_)
      · have h := ite_F h q12
        exact J10 _ h
      · have h := ite_T h q12
        refine sw_lload_n X 3 rfl rfl dX4_weight_23 ?_
        refine sw_iload_n X 1 rfl rfl dX4_weight_24 ?_
        refine sw_iload X 4 rfl dX4_weight_25 ?_
        refine sw_ishr X dX4_weight_27 ?_
        refine sw_iconst X (v := 1) (by decide) dX4_weight_28 ?_
        refine sw_iand X dX4_weight_29 ?_
        refine sw_iconst X (v := 1) (by decide) dX4_weight_30 ?_
        refine jn1_E (fun (x13 : Int64) => sw_V p l e 2 s m args below meth c g (sw_A g s.heap.size) (sw_QL below g args s r st) 6 44 [(0, .ref (g.1 t)), (1, .int a1), (2, .int a2), (5, .int x2)] [.long x13, .long x1] st) h (fun x13 h => ?_) (fun k14 J15 h => ?_)
        · refine sw_lmul X dX4_weight_44 ?_
          refine sw_topl (fun x16 ex16 => ?_)
          have h := nm_E h ex16
          refine sw_lstore_n X [(3, .long x16), (0, .ref (g.1 t)), (1, .int a1), (2, .int a2), (5, .int x2)] rfl (by decide) rfl dX4_weight_45 ?_
          refine sw_sub [1, 2, 3, 0, 4] rfl ?_
          exact J10 _ h
        · refine sw_icmp_ne X 39 (by decide) dX4_weight_31 (fun q17 => ?_) (fun q17 => ?_)
          · have h := ite_F h q17
            refine sw_bipush X (v := 12) (by decide) dX4_weight_39 ?_
            refine sw_iload_n X 2 rfl rfl dX4_weight_41 ?_
            refine sw_isub X dX4_weight_42 ?_
            refine sw_i2l X dX4_weight_43 ?_
            refine sw_sub [0, 1, 2, 4] rfl ?_
            exact J15 _ h
          · have h := ite_T h q17
            refine sw_iload_n X 2 rfl rfl dX4_weight_34 ?_
            refine sw_i2l X dX4_weight_35 ?_
            refine sw_goto X 44 (by decide) dX4_weight_36 ?_
            refine sw_sub [0, 1, 2, 4] rfl ?_
            exact J15 _ h
theorem dX4_weights_0 : decode cX4_weights 0 = .ok (.lconst 1, 1) := by decide +kernel
theorem dX4_weights_1 : decode cX4_weights 1 = .ok (.lstore_n 1, 1) := by decide +kernel
theorem dX4_weights_2 : decode cX4_weights 2 = .ok (.iconst 0, 1) := by decide +kernel
theorem dX4_weights_3 : decode cX4_weights 3 = .ok (.istore_n 3, 1) := by decide +kernel
theorem dX4_weights_4 : decode cX4_weights 4 = .ok (.iload_n 3, 1) := by decide +kernel
theorem dX4_weights_5 : decode cX4_weights 5 = .ok (.aload_n 0, 1) := by decide +kernel
theorem dX4_weights_6 : decode cX4_weights 6 = .ok (.getfield 9, 3) := by decide +kernel
theorem dX4_weights_9 : decode cX4_weights 9 = .ok (.if_icmp .ge 27, 3) := by decide +kernel
theorem dX4_weights_12 : decode cX4_weights 12 = .ok (.lload_n 1, 1) := by decide +kernel
theorem dX4_weights_13 : decode cX4_weights 13 = .ok (.aload_n 0, 1) := by decide +kernel
theorem dX4_weights_14 : decode cX4_weights 14 = .ok (.iload_n 3, 1) := by decide +kernel
theorem dX4_weights_15 : decode cX4_weights 15 = .ok (.invokevirtual 94, 3) := by decide +kernel
theorem dX4_weights_18 : decode cX4_weights 18 = .ok (.ifCond .eq 7, 3) := by decide +kernel
theorem dX4_weights_21 : decode cX4_weights 21 = .ok (.lconst 1, 1) := by decide +kernel
theorem dX4_weights_22 : decode cX4_weights 22 = .ok (.goto 6, 3) := by decide +kernel
theorem dX4_weights_25 : decode cX4_weights 25 = .ok (.ldc2_w 117, 3) := by decide +kernel
theorem dX4_weights_28 : decode cX4_weights 28 = .ok (.lmul, 1) := by decide +kernel
theorem dX4_weights_29 : decode cX4_weights 29 = .ok (.lstore_n 1, 1) := by decide +kernel
theorem dX4_weights_30 : decode cX4_weights 30 = .ok (.iinc 3 1, 3) := by decide +kernel
theorem dX4_weights_33 : decode cX4_weights 33 = .ok (.goto (-29), 3) := by decide +kernel
theorem dX4_weights_36 : decode cX4_weights 36 = .ok (.lload_n 1, 1) := by decide +kernel
theorem dX4_weights_37 : decode cX4_weights 37 = .ok (.lreturn, 1) := by decide +kernel
def j_X4_weights (F : Nat) (t : Nat) (st : sw_St) : Option Int64 :=
lz2 (fun f3 (x1 : Int64) (x2 : Int32) =>
 (if (st.1 t 0) ≤ x2 then (
  some x1)
 else (
  bo (j_X4_isIn F t x2 st) (fun (r7 : Int32) =>
  jn (fun (x8 : Int64) => 
    nm (x1 * x8) (fun (x11 : Int64) =>
    nm (x2 + 1) (fun (x12 : Int32) =>
    f3 x11 x12))) (fun k9 =>
   (if r7 = 0 then (
    k9 12)
   else (
    k9 1))))))) F 1 0
set_option maxHeartbeats 4000000 in
set_option maxRecDepth 100000 in
theorem c_X4_weights (F : Nat) {t : Nat} (ht : sw_kd t = 4) (st : sw_St) {r : Int64} (h : j_X4_weights F t st = some r) : sw_CL yX4_weights (.code yX4_weights cX4_weights 4 (some .long)) 2 (fun g => [.ref (g.1 t)]) st r st := by
  refine sw_entL RX4 (fun g => [(0, .ref (g.1 t))]) (by decide) rfl (fun _ => Nat.le_of_ble_eq_true rfl) (fun _ => rfl) ?_
  intro p l e s m args below meth c g X hr hlk
  unfold j_X4_weights at h
  refine sw_lconst X (v := 1) (by decide) dX4_weights_0 ?_
  refine sw_lstore_n X [(1, .long 1), (0, .ref (g.1 t))] rfl (by decide) rfl dX4_weights_1 ?_
  refine sw_iconst X (v := 0) (by decide) dX4_weights_2 ?_
  refine sw_istore_n X [(3, .int 0), (1, .long 1), (0, .ref (g.1 t))] rfl (by decide) rfl dX4_weights_3 ?_
  refine sw_sub [2, 1, 0] rfl ?_
  refine lz2_E (fun (x1 : Int64) (x2 : Int32) => sw_V p l e 2 s m args below meth c g (sw_A g s.heap.size) (sw_QL below g args s r st) 4 4 [(0, .ref (g.1 t)), (1, .long x1), (3, .int x2)] [] st) h (fun f3 ih4 x1 x2 h => ?_)
  refine sw_iload_n X 2 rfl rfl dX4_weights_4 ?_
  refine sw_aload_n X 0 rfl rfl dX4_weights_5 ?_
  refine sw_getI X sw_cl4 (show sw_kd t = 4 from ht) (k := 0) rfl (by decide) wf_X4_9 dX4_weights_6 ?_
  refine sw_icmp_ge X 36 (by decide) dX4_weights_9 (fun q5 => ?_) (fun q5 => ?_)
  · have h := ite_T h q5
    refine sw_lload_n X 1 rfl rfl dX4_weights_36 ?_
    exact sw_lret X hr hlk dX4_weights_37 (by cases h; rfl)
  · have h := ite_F h q5
    refine sw_lload_n X 1 rfl rfl dX4_weights_12 ?_
    refine sw_aload_n X 0 rfl rfl dX4_weights_13 ?_
    refine sw_iload_n X 2 rfl rfl dX4_weights_14 ?_
    obtain ⟨r7, c6, h⟩ := bo_E h
    refine sw_callVI X (o := t) (As := (fun g => [.int x2])) sw_cl4 (show sw_kd t = 4 from ht) ws_X4_isIn (by omega) (c_X4_isIn F (show sw_kd t = 4 from ht) x2 st c6) rfl rfl (Nat.le_of_ble_eq_true rfl) wm_X4_94 dX4_weights_15 ?_
    refine jn1_E (fun (x8 : Int64) => sw_V p l e 2 s m args below meth c g (sw_A g s.heap.size) (sw_QL below g args s r st) 4 28 [(0, .ref (g.1 t)), (3, .int x2)] [.long x8, .long x1] st) h (fun x8 h => ?_) (fun k9 J10 h => ?_)
    · refine sw_lmul X dX4_weights_28 ?_
      refine sw_topl (fun x11 ex11 => ?_)
      have h := nm_E h ex11
      refine sw_lstore_n X [(1, .long x11), (0, .ref (g.1 t)), (3, .int x2)] rfl (by decide) rfl dX4_weights_29 ?_
      obtain ⟨x12, ex12⟩ : ∃ y : Int32, y = x2 + 1 := ⟨_, rfl⟩
      have h := nm_E h ex12
      refine sw_iinc X 2 x12 [(3, .int x12), (1, .long x11), (0, .ref (g.1 t))] rfl (by rw [ex12]; rfl) (by decide) rfl dX4_weights_30 ?_
      refine sw_goto X 4 (by decide) dX4_weights_33 ?_
      refine sw_sub [2, 1, 0] rfl ?_
      exact ih4 _ _ h
    · refine sw_if_eq X 25 (by decide) dX4_weights_18 (fun q13 => ?_) (fun q13 => ?_)
      · have h := ite_T h q13
        refine sw_ldc2 X (v := 12) wl_X4_117 dX4_weights_25 ?_
        refine sw_sub [0, 2] rfl ?_
        exact J10 _ h
      · have h := ite_F h q13
        refine sw_lconst X (v := 1) (by decide) dX4_weights_21 ?_
        refine sw_goto X 28 (by decide) dX4_weights_22 ?_
        refine sw_sub [0, 2] rfl ?_
        exact J10 _ h
theorem dX5_found_0 : decode cX5_found 0 = .ok (.aload_n 0, 1) := by decide +kernel
theorem dX5_found_1 : decode cX5_found 1 = .ok (.iload_n 1, 1) := by decide +kernel
theorem dX5_found_2 : decode cX5_found 2 = .ok (.putfield 77, 3) := by decide +kernel
theorem dX5_found_5 : decode cX5_found 5 = .ok (.aload_n 0, 1) := by decide +kernel
theorem dX5_found_6 : decode cX5_found 6 = .ok (.getfield 74, 3) := by decide +kernel
theorem dX5_found_9 : decode cX5_found 9 = .ok (.iload_n 1, 1) := by decide +kernel
theorem dX5_found_10 : decode cX5_found 10 = .ok (.dup2, 1) := by decide +kernel
theorem dX5_found_11 : decode cX5_found 11 = .ok (.iaload, 1) := by decide +kernel
theorem dX5_found_12 : decode cX5_found 12 = .ok (.iconst 1, 1) := by decide +kernel
theorem dX5_found_13 : decode cX5_found 13 = .ok (.iadd, 1) := by decide +kernel
theorem dX5_found_14 : decode cX5_found 14 = .ok (.iastore, 1) := by decide +kernel
theorem dX5_found_15 : decode cX5_found 15 = .ok (.bipush (-3), 2) := by decide +kernel
theorem dX5_found_17 : decode cX5_found 17 = .ok (.ireturn, 1) := by decide +kernel
def j_X5_found (F : Nat) (a1 : Int32) (st : sw_St) : Option (Int32 × sw_St) :=
nm (sw_setC st 0 13 a1) (fun (s1 : sw_St) =>
bnd a1 6 (
bnd a1 6 (
nm (sw_setC s1 62 (a1 : Int32).toNatClampNeg ((s1.1 62 (a1 : Int32).toNatClampNeg) + 1)) (fun (s4 : sw_St) =>
some ((-3), s4)))))
set_option maxHeartbeats 4000000 in
set_option maxRecDepth 100000 in
theorem c_X5_found (F : Nat) (a1 : Int32) (st : sw_St) {r : Int32} {st1 : sw_St} (h : j_X5_found F a1 st = some (r, st1)) : sw_CI yX5_found (.code yX5_found cX5_found 2 (some .int)) 1 (fun g => [.ref (g.1 0), .int a1]) st r st1 := by
  refine sw_entI RX5 (fun g => [(0, .ref (g.1 0)), (1, .int a1)]) (by decide) rfl (fun _ => Nat.le_of_ble_eq_true rfl) (fun _ => rfl) ?_
  intro p l e s m args below meth c g X hr hlk
  unfold j_X5_found at h
  refine sw_aload_n X 0 rfl rfl dX5_found_0 ?_
  refine sw_iload_n X 1 rfl rfl dX5_found_1 ?_
  refine sw_putI X sw_cl5 (show sw_kd 0 = 5 from rfl) (k := 13) rfl (by decide) rfl rfl wf_X5_77 dX5_found_2 (fun s1 es1 => ?_)
  have h := nm_E h es1
  refine sw_aload_n X 0 rfl rfl dX5_found_5 ?_
  refine sw_getR X sw_cl5 (show sw_kd 0 = 5 from rfl) (k := 12) rfl (by decide) (o1 := 62) rfl wf_X5_74 dX5_found_6 ?_
  refine sw_iload_n X 1 rfl rfl dX5_found_9 ?_
  refine sw_dup2 X rfl rfl dX5_found_10 ?_
  obtain ⟨q2, h⟩ := bnd_E h
  refine sw_iald X (show sw_kd 62 = 8 from rfl) (n := 6) rfl q2 dX5_found_11 ?_
  refine sw_iconst X (v := 1) (by decide) dX5_found_12 ?_
  refine sw_iadd X dX5_found_13 ?_
  obtain ⟨q3, h⟩ := bnd_E h
  refine sw_iast X (show sw_kd 62 = 8 from rfl) (n := 6) rfl q3 dX5_found_14 (fun s4 es4 => ?_)
  have h := nm_E h es4
  refine sw_bipush X (v := (-3)) (by decide) dX5_found_15 ?_
  exact sw_iret X hr hlk dX5_found_17 h
theorem dX5_isRow_0 : decode cX5_isRow 0 = .ok (.iload_n 0, 1) := by decide +kernel
theorem dX5_isRow_1 : decode cX5_isRow 1 = .ok (.ifCond .lt 13, 3) := by decide +kernel
theorem dX5_isRow_4 : decode cX5_isRow 4 = .ok (.iload_n 0, 1) := by decide +kernel
theorem dX5_isRow_5 : decode cX5_isRow 5 = .ok (.bipush 6, 2) := by decide +kernel
theorem dX5_isRow_7 : decode cX5_isRow 7 = .ok (.if_icmp .ge 7, 3) := by decide +kernel
theorem dX5_isRow_10 : decode cX5_isRow 10 = .ok (.iconst 1, 1) := by decide +kernel
theorem dX5_isRow_11 : decode cX5_isRow 11 = .ok (.goto 4, 3) := by decide +kernel
theorem dX5_isRow_14 : decode cX5_isRow 14 = .ok (.iconst 0, 1) := by decide +kernel
theorem dX5_isRow_15 : decode cX5_isRow 15 = .ok (.ireturn, 1) := by decide +kernel
def j_X5_isRow (F : Nat) (a1 : Int32) (st : sw_St) : Option Int32 :=
jn (fun (x1 : Int32) => 
  grd (x1 = 0 ∨ x1 = 1) (some x1)) (fun k2 =>
 jn (
   k2 0) (fun k5 =>
  (if a1 < 0 then (
   k5)
  else (
   (if 6 ≤ a1 then (
    k5)
   else (
    k2 1))))))
set_option maxHeartbeats 4000000 in
set_option maxRecDepth 100000 in
theorem c_X5_isRow (F : Nat) (a1 : Int32) (st : sw_St) {r : Int32} (h : j_X5_isRow F a1 st = some r) : sw_CI yX5_isRow (.code yX5_isRow cX5_isRow 1 (some .boolean)) 1 (fun g => [.int a1]) st r st := by
  refine sw_entI RX5 (fun g => [(0, .int a1)]) (by decide) rfl (fun _ => Nat.le_of_ble_eq_true rfl) (fun _ => rfl) ?_
  intro p l e s m args below meth c g X hr hlk
  unfold j_X5_isRow at h
  refine sw_iload_n X 0 rfl rfl dX5_isRow_0 ?_
  refine jn1_E (fun (x1 : Int32) => sw_V p l e 1 s m args below meth c g (sw_A g s.heap.size) (sw_QI below g args s r st) 1 15 [] [.int x1] st) h (fun x1 h => ?_) (fun k2 J3 h => ?_)
  · obtain ⟨q4, h⟩ := grd_E h
    exact sw_zret X hr hlk q4 dX5_isRow_15 (by cases h; rfl)
  · refine jn0_E (sw_V p l e 1 s m args below meth c g (sw_A g s.heap.size) (sw_QI below g args s r st) 1 14 [] [] st) h (fun h => ?_) (fun k5 J6 h => ?_)
    · refine sw_iconst X (v := 0) (by decide) dX5_isRow_14 ?_
      exact J3 _ h
    · refine sw_if_lt X 14 (by decide) dX5_isRow_1 (fun q7 => ?_) (fun q7 => ?_)
      · have h := ite_T h q7
        refine sw_sub [] rfl ?_
        exact J6  h
      · have h := ite_F h q7
        refine sw_iload_n X 0 rfl rfl dX5_isRow_4 ?_
        refine sw_bipush X (v := 6) (by decide) dX5_isRow_5 ?_
        refine sw_icmp_ge X 14 (by decide) dX5_isRow_7 (fun q8 => ?_) (fun q8 => ?_)
        · have h := ite_T h q8
          refine sw_sub [] rfl ?_
          exact J6  h
        · have h := ite_F h q8
          refine sw_iconst X (v := 1) (by decide) dX5_isRow_10 ?_
          refine sw_goto X 15 (by decide) dX5_isRow_11 ?_
          refine sw_sub [] rfl ?_
          exact J3 _ h
theorem dX5_row_0 : decode cX5_row 0 = .ok (.iload_n 1, 1) := by decide +kernel
theorem dX5_row_1 : decode cX5_row 1 = .ok (.invokestatic 97, 3) := by decide +kernel
theorem dX5_row_4 : decode cX5_row 4 = .ok (.ifCond .eq 9, 3) := by decide +kernel
theorem dX5_row_7 : decode cX5_row 7 = .ok (.iload_n 2, 1) := by decide +kernel
theorem dX5_row_8 : decode cX5_row 8 = .ok (.bipush 40, 2) := by decide +kernel
theorem dX5_row_10 : decode cX5_row 10 = .ok (.if_icmp .le 5, 3) := by decide +kernel
theorem dX5_row_13 : decode cX5_row 13 = .ok (.iconst (-1), 1) := by decide +kernel
theorem dX5_row_14 : decode cX5_row 14 = .ok (.ireturn, 1) := by decide +kernel
theorem dX5_row_15 : decode cX5_row 15 = .ok (.iload_n 2, 1) := by decide +kernel
theorem dX5_row_16 : decode cX5_row 16 = .ok (.ifCond .ge 9, 3) := by decide +kernel
theorem dX5_row_19 : decode cX5_row 19 = .ok (.aload_n 0, 1) := by decide +kernel
theorem dX5_row_20 : decode cX5_row 20 = .ok (.iconst 5, 1) := by decide +kernel
theorem dX5_row_21 : decode cX5_row 21 = .ok (.invokevirtual 101, 3) := by decide +kernel
theorem dX5_row_24 : decode cX5_row 24 = .ok (.ireturn, 1) := by decide +kernel
theorem dX5_row_25 : decode cX5_row 25 = .ok (.aload_n 0, 1) := by decide +kernel
theorem dX5_row_26 : decode cX5_row 26 = .ok (.getfield 14, 3) := by decide +kernel
theorem dX5_row_29 : decode cX5_row 29 = .ok (.iload_n 1, 1) := by decide +kernel
theorem dX5_row_30 : decode cX5_row 30 = .ok (.iload_n 2, 1) := by decide +kernel
theorem dX5_row_31 : decode cX5_row 31 = .ok (.iastore, 1) := by decide +kernel
theorem dX5_row_32 : decode cX5_row 32 = .ok (.aload_n 0, 1) := by decide +kernel
theorem dX5_row_33 : decode cX5_row 33 = .ok (.getfield 11, 3) := by decide +kernel
theorem dX5_row_36 : decode cX5_row 36 = .ok (.iload_n 1, 1) := by decide +kernel
theorem dX5_row_37 : decode cX5_row 37 = .ok (.aaload, 1) := by decide +kernel
theorem dX5_row_38 : decode cX5_row 38 = .ok (.iconst 0, 1) := by decide +kernel
theorem dX5_row_39 : decode cX5_row 39 = .ok (.invokestatic 91, 3) := by decide +kernel
theorem dX5_row_42 : decode cX5_row 42 = .ok (.iload_n 2, 1) := by decide +kernel
theorem dX5_row_43 : decode cX5_row 43 = .ok (.ireturn, 1) := by decide +kernel
def j_X5_row (F : Nat) (a1 : Int32) (a2 : Int32) (st : sw_St) : Option (Int32 × sw_St) :=
bo (j_X5_isRow F a1 st) (fun (r2 : Int32) =>
jn (
  some ((-1), st)) (fun k3 =>
 (if r2 = 0 then (
  k3)
 else (
  (if a2 ≤ 40 then (
   (if 0 ≤ a2 then (
    bnd a1 6 (
    nm (sw_setC st 8 (a1 : Int32).toNatClampNeg a2) (fun (s9 : sw_St) =>
    bnd a1 6 (
    bd (j_J7_fill_53178 F (2 + (a1 : Int32).toNatClampNeg) 0 s9) (fun (_ : Unit) (s12 : sw_St) =>
    some (a2, s12))))))
   else (
    bd (j_X5_found F 5 st) (fun (r15 : Int32) (s16 : sw_St) =>
    some (r15, s16)))))
  else (
   k3))))))
set_option maxHeartbeats 4000000 in
set_option maxRecDepth 100000 in
theorem c_X5_row (F : Nat) (a1 : Int32) (a2 : Int32) (st : sw_St) {r : Int32} {st1 : sw_St} (h : j_X5_row F a1 a2 st = some (r, st1)) : sw_CI yX5_row (.code yX5_row cX5_row 3 (some .int)) 2 (fun g => [.ref (g.1 0), .int a1, .int a2]) st r st1 := by
  refine sw_entI RX5 (fun g => [(0, .ref (g.1 0)), (1, .int a1), (2, .int a2)]) (by decide) rfl (fun _ => Nat.le_of_ble_eq_true rfl) (fun _ => rfl) ?_
  intro p l e s m args below meth c g X hr hlk
  unfold j_X5_row at h
  refine sw_iload_n X 1 rfl rfl dX5_row_0 ?_
  obtain ⟨r2, c1, h⟩ := bo_E h
  refine sw_callSI X (As := (fun g => [.int a1])) ws_X5_isRow (by omega) (c_X5_isRow F a1 st c1) rfl rfl (Nat.le_of_ble_eq_true rfl) wm_X5_97 dX5_row_1 ?_
  refine jn0_E (sw_V p l e 2 s m args below meth c g (sw_A g s.heap.size) (sw_QI below g args s r st1) 3 13 [] [] st) h (fun h => ?_) (fun k3 J4 h => ?_)
  · refine sw_iconst X (v := (-1)) (by decide) dX5_row_13 ?_
    exact sw_iret X hr hlk dX5_row_14 h
  · refine sw_if_eq X 13 (by decide) dX5_row_4 (fun q5 => ?_) (fun q5 => ?_)
    · have h := ite_T h q5
      refine sw_sub [] rfl ?_
      exact J4  h
    · have h := ite_F h q5
      refine sw_iload_n X 2 rfl rfl dX5_row_7 ?_
      refine sw_bipush X (v := 40) (by decide) dX5_row_8 ?_
      refine sw_icmp_le X 15 (by decide) dX5_row_10 (fun q6 => ?_) (fun q6 => ?_)
      · have h := ite_T h q6
        refine sw_iload_n X 2 rfl rfl dX5_row_15 ?_
        refine sw_if_ge X 25 (by decide) dX5_row_16 (fun q7 => ?_) (fun q7 => ?_)
        · have h := ite_T h q7
          refine sw_aload_n X 0 rfl rfl dX5_row_25 ?_
          refine sw_getR X sw_cl5 (show sw_kd 0 = 5 from rfl) (k := 1) rfl (by decide) (o1 := 8) rfl wf_X5_14 dX5_row_26 ?_
          refine sw_iload_n X 1 rfl rfl dX5_row_29 ?_
          refine sw_iload_n X 2 rfl rfl dX5_row_30 ?_
          obtain ⟨q8, h⟩ := bnd_E h
          refine sw_iast X (show sw_kd 8 = 8 from rfl) (n := 6) rfl q8 dX5_row_31 (fun s9 es9 => ?_)
          have h := nm_E h es9
          refine sw_aload_n X 0 rfl rfl dX5_row_32 ?_
          refine sw_getR X sw_cl5 (show sw_kd 0 = 5 from rfl) (k := 0) rfl (by decide) (o1 := 1) rfl wf_X5_11 dX5_row_33 ?_
          refine sw_iload_n X 1 rfl rfl dX5_row_36 ?_
          obtain ⟨q10, h⟩ := bnd_E h
          refine sw_aaldI X (show sw_kd 1 = 12 from rfl) (n := 6) rfl q10 (a1 := 2 + (a1 : Int32).toNatClampNeg) rfl dX5_row_37 ?_
          refine sw_iconst X (v := 0) (by decide) dX5_row_38 ?_
          obtain ⟨u13, s12, c11, h⟩ := bd_E h
          refine sw_callSV X (As := (fun g => [.ref (g.1 (2 + (a1 : Int32).toNatClampNeg)), .int 0])) ws_J7_fill_53178 (by omega) (c_J7_fill_53178 F (show sw_kd (2 + (a1 : Int32).toNatClampNeg) = 8 from (sw_rk q10)) 0 s9 c11) rfl rfl (Nat.le_of_ble_eq_true rfl) wm_X5_91 dX5_row_39 ?_
          refine sw_iload_n X 2 rfl rfl dX5_row_42 ?_
          exact sw_iret X hr hlk dX5_row_43 h
        · have h := ite_F h q7
          refine sw_aload_n X 0 rfl rfl dX5_row_19 ?_
          refine sw_iconst X (v := 5) (by decide) dX5_row_20 ?_
          obtain ⟨r15, s16, c14, h⟩ := bd_E h
          refine sw_callVI X (o := 0) (As := (fun g => [.int 5])) sw_cl5 (show sw_kd 0 = 5 from rfl) ws_X5_found (by omega) (c_X5_found F 5 st c14) rfl rfl (Nat.le_of_ble_eq_true rfl) wm_X5_101 dX5_row_21 ?_
          exact sw_iret X hr hlk dX5_row_24 h
      · have h := ite_F h q6
        refine sw_sub [] rfl ?_
        exact J4  h
theorem dX5_refusedPlace_0 : decode cX5_refusedPlace 0 = .ok (.iload_n 1, 1) := by decide +kernel
theorem dX5_refusedPlace_1 : decode cX5_refusedPlace 1 = .ok (.invokestatic 97, 3) := by decide +kernel
theorem dX5_refusedPlace_4 : decode cX5_refusedPlace 4 = .ok (.ifCond .ne 5, 3) := by decide +kernel
theorem dX5_refusedPlace_7 : decode cX5_refusedPlace 7 = .ok (.iconst (-1), 1) := by decide +kernel
theorem dX5_refusedPlace_8 : decode cX5_refusedPlace 8 = .ok (.ireturn, 1) := by decide +kernel
theorem dX5_refusedPlace_9 : decode cX5_refusedPlace 9 = .ok (.aload_n 0, 1) := by decide +kernel
theorem dX5_refusedPlace_10 : decode cX5_refusedPlace 10 = .ok (.getfield 14, 3) := by decide +kernel
theorem dX5_refusedPlace_13 : decode cX5_refusedPlace 13 = .ok (.iload_n 1, 1) := by decide +kernel
theorem dX5_refusedPlace_14 : decode cX5_refusedPlace 14 = .ok (.iaload, 1) := by decide +kernel
theorem dX5_refusedPlace_15 : decode cX5_refusedPlace 15 = .ok (.ifCond .ge 9, 3) := by decide +kernel
theorem dX5_refusedPlace_18 : decode cX5_refusedPlace 18 = .ok (.aload_n 0, 1) := by decide +kernel
theorem dX5_refusedPlace_19 : decode cX5_refusedPlace 19 = .ok (.iconst 1, 1) := by decide +kernel
theorem dX5_refusedPlace_20 : decode cX5_refusedPlace 20 = .ok (.invokevirtual 101, 3) := by decide +kernel
theorem dX5_refusedPlace_23 : decode cX5_refusedPlace 23 = .ok (.ireturn, 1) := by decide +kernel
theorem dX5_refusedPlace_24 : decode cX5_refusedPlace 24 = .ok (.iload_n 2, 1) := by decide +kernel
theorem dX5_refusedPlace_25 : decode cX5_refusedPlace 25 = .ok (.ifCond .lt 13, 3) := by decide +kernel
theorem dX5_refusedPlace_28 : decode cX5_refusedPlace 28 = .ok (.iload_n 2, 1) := by decide +kernel
theorem dX5_refusedPlace_29 : decode cX5_refusedPlace 29 = .ok (.aload_n 0, 1) := by decide +kernel
theorem dX5_refusedPlace_30 : decode cX5_refusedPlace 30 = .ok (.getfield 14, 3) := by decide +kernel
theorem dX5_refusedPlace_33 : decode cX5_refusedPlace 33 = .ok (.iload_n 1, 1) := by decide +kernel
theorem dX5_refusedPlace_34 : decode cX5_refusedPlace 34 = .ok (.iaload, 1) := by decide +kernel
theorem dX5_refusedPlace_35 : decode cX5_refusedPlace 35 = .ok (.if_icmp .lt 9, 3) := by decide +kernel
theorem dX5_refusedPlace_38 : decode cX5_refusedPlace 38 = .ok (.aload_n 0, 1) := by decide +kernel
theorem dX5_refusedPlace_39 : decode cX5_refusedPlace 39 = .ok (.iconst 2, 1) := by decide +kernel
theorem dX5_refusedPlace_40 : decode cX5_refusedPlace 40 = .ok (.invokevirtual 101, 3) := by decide +kernel
theorem dX5_refusedPlace_43 : decode cX5_refusedPlace 43 = .ok (.ireturn, 1) := by decide +kernel
theorem dX5_refusedPlace_44 : decode cX5_refusedPlace 44 = .ok (.iconst 0, 1) := by decide +kernel
theorem dX5_refusedPlace_45 : decode cX5_refusedPlace 45 = .ok (.ireturn, 1) := by decide +kernel
def j_X5_refusedPlace (F : Nat) (a1 : Int32) (a2 : Int32) (st : sw_St) : Option (Int32 × sw_St) :=
bo (j_X5_isRow F a1 st) (fun (r2 : Int32) =>
(if r2 = 0 then (
 some ((-1), st))
else (
 bnd a1 6 (
 (if 0 ≤ (st.1 8 (a1 : Int32).toNatClampNeg) then (
  jn (
    bd (j_X5_found F 2 st) (fun (r9 : Int32) (s10 : sw_St) =>
    some (r9, s10))) (fun k6 =>
   (if a2 < 0 then (
    k6)
   else (
    bnd a1 6 (
    (if a2 < (st.1 8 (a1 : Int32).toNatClampNeg) then (
     some (0, st))
    else (
     k6)))))))
 else (
  bd (j_X5_found F 1 st) (fun (r15 : Int32) (s16 : sw_St) =>
  some (r15, s16))))))))
set_option maxHeartbeats 4000000 in
set_option maxRecDepth 100000 in
theorem c_X5_refusedPlace (F : Nat) (a1 : Int32) (a2 : Int32) (st : sw_St) {r : Int32} {st1 : sw_St} (h : j_X5_refusedPlace F a1 a2 st = some (r, st1)) : sw_CI yX5_refusedPlace (.code yX5_refusedPlace cX5_refusedPlace 3 (some .int)) 2 (fun g => [.ref (g.1 0), .int a1, .int a2]) st r st1 := by
  refine sw_entI RX5 (fun g => [(0, .ref (g.1 0)), (1, .int a1), (2, .int a2)]) (by decide) rfl (fun _ => Nat.le_of_ble_eq_true rfl) (fun _ => rfl) ?_
  intro p l e s m args below meth c g X hr hlk
  unfold j_X5_refusedPlace at h
  refine sw_iload_n X 1 rfl rfl dX5_refusedPlace_0 ?_
  obtain ⟨r2, c1, h⟩ := bo_E h
  refine sw_callSI X (As := (fun g => [.int a1])) ws_X5_isRow (by omega) (c_X5_isRow F a1 st c1) rfl rfl (Nat.le_of_ble_eq_true rfl) wm_X5_97 dX5_refusedPlace_1 ?_
  refine sw_if_ne X 9 (by decide) dX5_refusedPlace_4 (fun q3 => ?_) (fun q3 => ?_)
  · have h := ite_F h q3
    refine sw_aload_n X 0 rfl rfl dX5_refusedPlace_9 ?_
    refine sw_getR X sw_cl5 (show sw_kd 0 = 5 from rfl) (k := 1) rfl (by decide) (o1 := 8) rfl wf_X5_14 dX5_refusedPlace_10 ?_
    refine sw_iload_n X 1 rfl rfl dX5_refusedPlace_13 ?_
    obtain ⟨q4, h⟩ := bnd_E h
    refine sw_iald X (show sw_kd 8 = 8 from rfl) (n := 6) rfl q4 dX5_refusedPlace_14 ?_
    refine sw_if_ge X 24 (by decide) dX5_refusedPlace_15 (fun q5 => ?_) (fun q5 => ?_)
    · have h := ite_T h q5
      refine sw_iload_n X 2 rfl rfl dX5_refusedPlace_24 ?_
      refine jn0_E (sw_V p l e 2 s m args below meth c g (sw_A g s.heap.size) (sw_QI below g args s r st1) 3 38 [(0, .ref (g.1 0))] [] st) h (fun h => ?_) (fun k6 J7 h => ?_)
      · refine sw_aload_n X 0 rfl rfl dX5_refusedPlace_38 ?_
        refine sw_iconst X (v := 2) (by decide) dX5_refusedPlace_39 ?_
        obtain ⟨r9, s10, c8, h⟩ := bd_E h
        refine sw_callVI X (o := 0) (As := (fun g => [.int 2])) sw_cl5 (show sw_kd 0 = 5 from rfl) ws_X5_found (by omega) (c_X5_found F 2 st c8) rfl rfl (Nat.le_of_ble_eq_true rfl) wm_X5_101 dX5_refusedPlace_40 ?_
        exact sw_iret X hr hlk dX5_refusedPlace_43 h
      · refine sw_if_lt X 38 (by decide) dX5_refusedPlace_25 (fun q11 => ?_) (fun q11 => ?_)
        · have h := ite_T h q11
          refine sw_sub [0] rfl ?_
          exact J7  h
        · have h := ite_F h q11
          refine sw_iload_n X 2 rfl rfl dX5_refusedPlace_28 ?_
          refine sw_aload_n X 0 rfl rfl dX5_refusedPlace_29 ?_
          refine sw_getR X sw_cl5 (show sw_kd 0 = 5 from rfl) (k := 1) rfl (by decide) (o1 := 8) rfl wf_X5_14 dX5_refusedPlace_30 ?_
          refine sw_iload_n X 1 rfl rfl dX5_refusedPlace_33 ?_
          obtain ⟨q12, h⟩ := bnd_E h
          refine sw_iald X (show sw_kd 8 = 8 from rfl) (n := 6) rfl q12 dX5_refusedPlace_34 ?_
          refine sw_icmp_lt X 44 (by decide) dX5_refusedPlace_35 (fun q13 => ?_) (fun q13 => ?_)
          · have h := ite_T h q13
            refine sw_iconst X (v := 0) (by decide) dX5_refusedPlace_44 ?_
            exact sw_iret X hr hlk dX5_refusedPlace_45 h
          · have h := ite_F h q13
            refine sw_sub [0] rfl ?_
            exact J7  h
    · have h := ite_F h q5
      refine sw_aload_n X 0 rfl rfl dX5_refusedPlace_18 ?_
      refine sw_iconst X (v := 1) (by decide) dX5_refusedPlace_19 ?_
      obtain ⟨r15, s16, c14, h⟩ := bd_E h
      refine sw_callVI X (o := 0) (As := (fun g => [.int 1])) sw_cl5 (show sw_kd 0 = 5 from rfl) ws_X5_found (by omega) (c_X5_found F 1 st c14) rfl rfl (Nat.le_of_ble_eq_true rfl) wm_X5_101 dX5_refusedPlace_20 ?_
      exact sw_iret X hr hlk dX5_refusedPlace_23 h
  · have h := ite_T h q3
    refine sw_iconst X (v := (-1)) (by decide) dX5_refusedPlace_7 ?_
    exact sw_iret X hr hlk dX5_refusedPlace_8 h
theorem dX5_lay_0 : decode cX5_lay 0 = .ok (.aload_n 0, 1) := by decide +kernel
theorem dX5_lay_1 : decode cX5_lay 1 = .ok (.iload_n 1, 1) := by decide +kernel
theorem dX5_lay_2 : decode cX5_lay 2 = .ok (.iload_n 2, 1) := by decide +kernel
theorem dX5_lay_3 : decode cX5_lay 3 = .ok (.invokevirtual 105, 3) := by decide +kernel
theorem dX5_lay_6 : decode cX5_lay 6 = .ok (.istore 4, 2) := by decide +kernel
theorem dX5_lay_8 : decode cX5_lay 8 = .ok (.iload 4, 2) := by decide +kernel
theorem dX5_lay_10 : decode cX5_lay 10 = .ok (.ifCond .eq 6, 3) := by decide +kernel
theorem dX5_lay_13 : decode cX5_lay 13 = .ok (.iload 4, 2) := by decide +kernel
theorem dX5_lay_15 : decode cX5_lay 15 = .ok (.ireturn, 1) := by decide +kernel
theorem dX5_lay_16 : decode cX5_lay 16 = .ok (.aload_n 0, 1) := by decide +kernel
theorem dX5_lay_17 : decode cX5_lay 17 = .ok (.aload_n 0, 1) := by decide +kernel
theorem dX5_lay_18 : decode cX5_lay 18 = .ok (.getfield 11, 3) := by decide +kernel
theorem dX5_lay_21 : decode cX5_lay 21 = .ok (.iload_n 1, 1) := by decide +kernel
theorem dX5_lay_22 : decode cX5_lay 22 = .ok (.aaload, 1) := by decide +kernel
theorem dX5_lay_23 : decode cX5_lay 23 = .ok (.iload_n 2, 1) := by decide +kernel
theorem dX5_lay_24 : decode cX5_lay 24 = .ok (.iaload, 1) := by decide +kernel
theorem dX5_lay_25 : decode cX5_lay 25 = .ok (.putfield 81, 3) := by decide +kernel
theorem dX5_lay_28 : decode cX5_lay 28 = .ok (.aload_n 0, 1) := by decide +kernel
theorem dX5_lay_29 : decode cX5_lay 29 = .ok (.getfield 11, 3) := by decide +kernel
theorem dX5_lay_32 : decode cX5_lay 32 = .ok (.iload_n 1, 1) := by decide +kernel
theorem dX5_lay_33 : decode cX5_lay 33 = .ok (.aaload, 1) := by decide +kernel
theorem dX5_lay_34 : decode cX5_lay 34 = .ok (.iload_n 2, 1) := by decide +kernel
theorem dX5_lay_35 : decode cX5_lay 35 = .ok (.iload_n 3, 1) := by decide +kernel
theorem dX5_lay_36 : decode cX5_lay 36 = .ok (.iastore, 1) := by decide +kernel
theorem dX5_lay_37 : decode cX5_lay 37 = .ok (.iconst 1, 1) := by decide +kernel
theorem dX5_lay_38 : decode cX5_lay 38 = .ok (.ireturn, 1) := by decide +kernel
def j_X5_lay (F : Nat) (a1 : Int32) (a2 : Int32) (a3 : Int32) (st : sw_St) : Option (Int32 × sw_St) :=
bd (j_X5_refusedPlace F a1 a2 st) (fun (r2 : Int32) (s3 : sw_St) =>
(if r2 = 0 then (
 bnd a1 6 (
 bnd a2 40 (
 nm (sw_setC s3 0 14 (s3.1 (2 + (a1 : Int32).toNatClampNeg) (a2 : Int32).toNatClampNeg)) (fun (s7 : sw_St) =>
 bnd a1 6 (
 bnd a2 40 (
 nm (sw_setC s7 (2 + (a1 : Int32).toNatClampNeg) (a2 : Int32).toNatClampNeg a3) (fun (s10 : sw_St) =>
 some (1, s10))))))))
else (
 some (r2, s3))))
set_option maxHeartbeats 4000000 in
set_option maxRecDepth 100000 in
theorem c_X5_lay (F : Nat) (a1 : Int32) (a2 : Int32) (a3 : Int32) (st : sw_St) {r : Int32} {st1 : sw_St} (h : j_X5_lay F a1 a2 a3 st = some (r, st1)) : sw_CI yX5_lay (.code yX5_lay cX5_lay 5 (some .int)) 3 (fun g => [.ref (g.1 0), .int a1, .int a2, .int a3]) st r st1 := by
  refine sw_entI RX5 (fun g => [(0, .ref (g.1 0)), (1, .int a1), (2, .int a2), (3, .int a3)]) (by decide) rfl (fun _ => Nat.le_of_ble_eq_true rfl) (fun _ => rfl) ?_
  intro p l e s m args below meth c g X hr hlk
  unfold j_X5_lay at h
  refine sw_aload_n X 0 rfl rfl dX5_lay_0 ?_
  refine sw_iload_n X 1 rfl rfl dX5_lay_1 ?_
  refine sw_iload_n X 2 rfl rfl dX5_lay_2 ?_
  obtain ⟨r2, s3, c1, h⟩ := bd_E h
  refine sw_callVI X (o := 0) (As := (fun g => [.int a1, .int a2])) sw_cl5 (show sw_kd 0 = 5 from rfl) ws_X5_refusedPlace (by omega) (c_X5_refusedPlace F a1 a2 st c1) rfl rfl (Nat.le_of_ble_eq_true rfl) wm_X5_105 dX5_lay_3 ?_
  refine sw_istore X [(4, .int r2), (0, .ref (g.1 0)), (1, .int a1), (2, .int a2), (3, .int a3)] (by decide) rfl dX5_lay_6 ?_
  refine sw_iload X 0 rfl dX5_lay_8 ?_
  refine sw_if_eq X 16 (by decide) dX5_lay_10 (fun q4 => ?_) (fun q4 => ?_)
  · have h := ite_T h q4
    refine sw_aload_n X 1 rfl rfl dX5_lay_16 ?_
    refine sw_aload_n X 1 rfl rfl dX5_lay_17 ?_
    refine sw_getR X sw_cl5 (show sw_kd 0 = 5 from rfl) (k := 0) rfl (by decide) (o1 := 1) rfl wf_X5_11 dX5_lay_18 ?_
    refine sw_iload_n X 2 rfl rfl dX5_lay_21 ?_
    obtain ⟨q5, h⟩ := bnd_E h
    refine sw_aaldI X (show sw_kd 1 = 12 from rfl) (n := 6) rfl q5 (a1 := 2 + (a1 : Int32).toNatClampNeg) rfl dX5_lay_22 ?_
    refine sw_iload_n X 3 rfl rfl dX5_lay_23 ?_
    obtain ⟨q6, h⟩ := bnd_E h
    refine sw_iald X (show sw_kd (2 + (a1 : Int32).toNatClampNeg) = 8 from (sw_rk q5)) (n := 40) (sw_rn q5) q6 dX5_lay_24 ?_
    refine sw_putI X sw_cl5 (show sw_kd 0 = 5 from rfl) (k := 14) rfl (by decide) rfl rfl wf_X5_81 dX5_lay_25 (fun s7 es7 => ?_)
    have h := nm_E h es7
    refine sw_aload_n X 1 rfl rfl dX5_lay_28 ?_
    refine sw_getR X sw_cl5 (show sw_kd 0 = 5 from rfl) (k := 0) rfl (by decide) (o1 := 1) rfl wf_X5_11 dX5_lay_29 ?_
    refine sw_iload_n X 2 rfl rfl dX5_lay_32 ?_
    obtain ⟨q8, h⟩ := bnd_E h
    refine sw_aaldI X (show sw_kd 1 = 12 from rfl) (n := 6) rfl q8 (a1 := 2 + (a1 : Int32).toNatClampNeg) rfl dX5_lay_33 ?_
    refine sw_iload_n X 3 rfl rfl dX5_lay_34 ?_
    refine sw_iload_n X 4 rfl rfl dX5_lay_35 ?_
    obtain ⟨q9, h⟩ := bnd_E h
    refine sw_iast X (show sw_kd (2 + (a1 : Int32).toNatClampNeg) = 8 from (sw_rk q8)) (n := 40) (sw_rn q8) q9 dX5_lay_36 (fun s10 es10 => ?_)
    have h := nm_E h es10
    refine sw_iconst X (v := 1) (by decide) dX5_lay_37 ?_
    exact sw_iret X hr hlk dX5_lay_38 h
  · have h := ite_F h q4
    refine sw_iload X 0 rfl dX5_lay_13 ?_
    exact sw_iret X hr hlk dX5_lay_15 h
theorem dX5_at_0 : decode cX5_at 0 = .ok (.aload_n 0, 1) := by decide +kernel
theorem dX5_at_1 : decode cX5_at 1 = .ok (.iload_n 1, 1) := by decide +kernel
theorem dX5_at_2 : decode cX5_at 2 = .ok (.iload_n 2, 1) := by decide +kernel
theorem dX5_at_3 : decode cX5_at 3 = .ok (.invokevirtual 105, 3) := by decide +kernel
theorem dX5_at_6 : decode cX5_at 6 = .ok (.istore_n 3, 1) := by decide +kernel
theorem dX5_at_7 : decode cX5_at 7 = .ok (.iload_n 3, 1) := by decide +kernel
theorem dX5_at_8 : decode cX5_at 8 = .ok (.ifCond .eq 5, 3) := by decide +kernel
theorem dX5_at_11 : decode cX5_at 11 = .ok (.iload_n 3, 1) := by decide +kernel
theorem dX5_at_12 : decode cX5_at 12 = .ok (.ireturn, 1) := by decide +kernel
theorem dX5_at_13 : decode cX5_at 13 = .ok (.aload_n 0, 1) := by decide +kernel
theorem dX5_at_14 : decode cX5_at 14 = .ok (.aload_n 0, 1) := by decide +kernel
theorem dX5_at_15 : decode cX5_at 15 = .ok (.getfield 11, 3) := by decide +kernel
theorem dX5_at_18 : decode cX5_at 18 = .ok (.iload_n 1, 1) := by decide +kernel
theorem dX5_at_19 : decode cX5_at 19 = .ok (.aaload, 1) := by decide +kernel
theorem dX5_at_20 : decode cX5_at 20 = .ok (.iload_n 2, 1) := by decide +kernel
theorem dX5_at_21 : decode cX5_at 21 = .ok (.iaload, 1) := by decide +kernel
theorem dX5_at_22 : decode cX5_at 22 = .ok (.putfield 81, 3) := by decide +kernel
theorem dX5_at_25 : decode cX5_at 25 = .ok (.iconst 1, 1) := by decide +kernel
theorem dX5_at_26 : decode cX5_at 26 = .ok (.ireturn, 1) := by decide +kernel
def j_X5_at (F : Nat) (a1 : Int32) (a2 : Int32) (st : sw_St) : Option (Int32 × sw_St) :=
bd (j_X5_refusedPlace F a1 a2 st) (fun (r2 : Int32) (s3 : sw_St) =>
(if r2 = 0 then (
 bnd a1 6 (
 bnd a2 40 (
 nm (sw_setC s3 0 14 (s3.1 (2 + (a1 : Int32).toNatClampNeg) (a2 : Int32).toNatClampNeg)) (fun (s7 : sw_St) =>
 some (1, s7)))))
else (
 some (r2, s3))))
set_option maxHeartbeats 4000000 in
set_option maxRecDepth 100000 in
theorem c_X5_at (F : Nat) (a1 : Int32) (a2 : Int32) (st : sw_St) {r : Int32} {st1 : sw_St} (h : j_X5_at F a1 a2 st = some (r, st1)) : sw_CI yX5_at (.code yX5_at cX5_at 4 (some .int)) 3 (fun g => [.ref (g.1 0), .int a1, .int a2]) st r st1 := by
  refine sw_entI RX5 (fun g => [(0, .ref (g.1 0)), (1, .int a1), (2, .int a2)]) (by decide) rfl (fun _ => Nat.le_of_ble_eq_true rfl) (fun _ => rfl) ?_
  intro p l e s m args below meth c g X hr hlk
  unfold j_X5_at at h
  refine sw_aload_n X 0 rfl rfl dX5_at_0 ?_
  refine sw_iload_n X 1 rfl rfl dX5_at_1 ?_
  refine sw_iload_n X 2 rfl rfl dX5_at_2 ?_
  obtain ⟨r2, s3, c1, h⟩ := bd_E h
  refine sw_callVI X (o := 0) (As := (fun g => [.int a1, .int a2])) sw_cl5 (show sw_kd 0 = 5 from rfl) ws_X5_refusedPlace (by omega) (c_X5_refusedPlace F a1 a2 st c1) rfl rfl (Nat.le_of_ble_eq_true rfl) wm_X5_105 dX5_at_3 ?_
  refine sw_istore_n X [(3, .int r2), (0, .ref (g.1 0)), (1, .int a1), (2, .int a2)] rfl (by decide) rfl dX5_at_6 ?_
  refine sw_iload_n X 0 rfl rfl dX5_at_7 ?_
  refine sw_if_eq X 13 (by decide) dX5_at_8 (fun q4 => ?_) (fun q4 => ?_)
  · have h := ite_T h q4
    refine sw_aload_n X 1 rfl rfl dX5_at_13 ?_
    refine sw_aload_n X 1 rfl rfl dX5_at_14 ?_
    refine sw_getR X sw_cl5 (show sw_kd 0 = 5 from rfl) (k := 0) rfl (by decide) (o1 := 1) rfl wf_X5_11 dX5_at_15 ?_
    refine sw_iload_n X 2 rfl rfl dX5_at_18 ?_
    obtain ⟨q5, h⟩ := bnd_E h
    refine sw_aaldI X (show sw_kd 1 = 12 from rfl) (n := 6) rfl q5 (a1 := 2 + (a1 : Int32).toNatClampNeg) rfl dX5_at_19 ?_
    refine sw_iload_n X 3 rfl rfl dX5_at_20 ?_
    obtain ⟨q6, h⟩ := bnd_E h
    refine sw_iald X (show sw_kd (2 + (a1 : Int32).toNatClampNeg) = 8 from (sw_rk q5)) (n := 40) (sw_rn q5) q6 dX5_at_21 ?_
    refine sw_putI X sw_cl5 (show sw_kd 0 = 5 from rfl) (k := 14) rfl (by decide) rfl rfl wf_X5_81 dX5_at_22 (fun s7 es7 => ?_)
    have h := nm_E h es7
    refine sw_iconst X (v := 1) (by decide) dX5_at_25 ?_
    exact sw_iret X hr hlk dX5_at_26 h
  · have h := ite_F h q4
    refine sw_iload_n X 0 rfl rfl dX5_at_11 ?_
    exact sw_iret X hr hlk dX5_at_12 h
end
section
theorem i_vc : Claimed_1_1 ∧ Claimed_1_2 := sorry
end
