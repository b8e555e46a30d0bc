section
-- ===== PART A: goes FIRST, ahead of the names: the tables' words, and 'selects' of the private methods out of them =====
/-- a private method of a class that the tables say can be made, by its rows of tables_1 -/
def lw_okq (q : MethodName × Nat) : Prop := (q.1.cls ≠ "java/lang/invoke/MethodHandle" ∧ q.1.cls ≠ "java/lang/invoke/VarHandle") ∧ Cond.instantiable q.1.cls q.2 ∈ tables_1 ∧ Cond.privateMethod q.1 ∈ tables_1 ∧ Cond.instanceMethod q.1 ∈ tables_1
theorem lw_p0 : lw_okq (⟨"StrangersWind", "found", "(I)I"⟩, 17) := ⟨⟨by decide +kernel, by decide +kernel⟩, List.mem_of_getElem? (i := 13) (by decide +kernel), List.mem_of_getElem? (i := 285) (by decide +kernel), List.mem_of_getElem? (i := 286) (by decide +kernel)⟩
theorem lw_p1 : lw_okq (⟨"StrangersWind", "refusedPlace", "(II)I"⟩, 17) := ⟨⟨by decide +kernel, by decide +kernel⟩, List.mem_of_getElem? (i := 13) (by decide +kernel), List.mem_of_getElem? (i := 293) (by decide +kernel), List.mem_of_getElem? (i := 294) (by decide +kernel)⟩
theorem lw_p2 : lw_okq (⟨"StrangersWind$Reader", "skipBlanks", "()V"⟩, 3) := ⟨⟨by decide +kernel, by decide +kernel⟩, List.mem_of_getElem? (i := 104) (by decide +kernel), List.mem_of_getElem? (i := 341) (by decide +kernel), List.mem_of_getElem? (i := 342) (by decide +kernel)⟩
theorem lw_p3 : lw_okq (⟨"StrangersWind$Reader", "readSpring", "(LStrangersWind$Town;)Z"⟩, 3) := ⟨⟨by decide +kernel, by decide +kernel⟩, List.mem_of_getElem? (i := 104) (by decide +kernel), List.mem_of_getElem? (i := 345) (by decide +kernel), List.mem_of_getElem? (i := 346) (by decide +kernel)⟩
theorem lw_p4 : lw_okq (⟨"StrangersWind$Reader", "readFigure", "(II)I"⟩, 3) := ⟨⟨by decide +kernel, by decide +kernel⟩, List.mem_of_getElem? (i := 104) (by decide +kernel), List.mem_of_getElem? (i := 349) (by decide +kernel), List.mem_of_getElem? (i := 350) (by decide +kernel)⟩
theorem lw_p5 : lw_okq (⟨"StrangersWind$Reader", "readStranger", "(LStrangersWind$Town;I)Z"⟩, 3) := ⟨⟨by decide +kernel, by decide +kernel⟩, List.mem_of_getElem? (i := 104) (by decide +kernel), List.mem_of_getElem? (i := 353) (by decide +kernel), List.mem_of_getElem? (i := 354) (by decide +kernel)⟩
theorem lw_p6 : lw_okq (⟨"StrangersWind$Reader", "readKind", "()I"⟩, 3) := ⟨⟨by decide +kernel, by decide +kernel⟩, List.mem_of_getElem? (i := 104) (by decide +kernel), List.mem_of_getElem? (i := 357) (by decide +kernel), List.mem_of_getElem? (i := 358) (by decide +kernel)⟩
theorem lw_p7 : lw_okq (⟨"StrangersWind$Town", "carryOut", "(II)V"⟩, 15) := ⟨⟨by decide +kernel, by decide +kernel⟩, List.mem_of_getElem? (i := 25) (by decide +kernel), List.mem_of_getElem? (i := 444) (by decide +kernel), List.mem_of_getElem? (i := 445) (by decide +kernel)⟩
theorem lw_p8 : lw_okq (⟨"StrangersWind", "refusedGuests", "(IIZ)I"⟩, 17) := ⟨⟨by decide +kernel, by decide +kernel⟩, List.mem_of_getElem? (i := 13) (by decide +kernel), List.mem_of_getElem? (i := 512) (by decide +kernel), List.mem_of_getElem? (i := 513) (by decide +kernel)⟩
theorem lw_p9 : lw_okq (⟨"StrangersWind", "canAllCome", "(IZ)Z"⟩, 17) := ⟨⟨by decide +kernel, by decide +kernel⟩, List.mem_of_getElem? (i := 13) (by decide +kernel), List.mem_of_getElem? (i := 516) (by decide +kernel), List.mem_of_getElem? (i := 517) (by decide +kernel)⟩
theorem lw_p10 : lw_okq (⟨"StrangersWind", "fillRow", "(I[II)V"⟩, 17) := ⟨⟨by decide +kernel, by decide +kernel⟩, List.mem_of_getElem? (i := 13) (by decide +kernel), List.mem_of_getElem? (i := 552) (by decide +kernel), List.mem_of_getElem? (i := 553) (by decide +kernel)⟩
theorem lw_p11 : lw_okq (⟨"StrangersWind$Lettings", "weigh", "(III)V"⟩, 9) := ⟨⟨by decide +kernel, by decide +kernel⟩, List.mem_of_getElem? (i := 121) (by decide +kernel), List.mem_of_getElem? (i := 573) (by decide +kernel), List.mem_of_getElem? (i := 574) (by decide +kernel)⟩
theorem lw_p12 : lw_okq (⟨"StrangersWind", "tell", "(JJ)V"⟩, 17) := ⟨⟨by decide +kernel, by decide +kernel⟩, List.mem_of_getElem? (i := 13) (by decide +kernel), List.mem_of_getElem? (i := 582) (by decide +kernel), List.mem_of_getElem? (i := 583) (by decide +kernel)⟩
theorem lw_p13 : lw_okq (⟨"StrangersWind$Beard", "tally", "(I)V"⟩, 8) := ⟨⟨by decide +kernel, by decide +kernel⟩, List.mem_of_getElem? (i := 185) (by decide +kernel), List.mem_of_getElem? (i := 619) (by decide +kernel), List.mem_of_getElem? (i := 620) (by decide +kernel)⟩
theorem lw_p14 : lw_okq (⟨"StrangersWind", "refusedBeard", "(I)I"⟩, 17) := ⟨⟨by decide +kernel, by decide +kernel⟩, List.mem_of_getElem? (i := 13) (by decide +kernel), List.mem_of_getElem? (i := 630) (by decide +kernel), List.mem_of_getElem? (i := 631) (by decide +kernel)⟩
theorem lw_p15 : lw_okq (⟨"StrangersWind", "firstFalsePair", "([II)I"⟩, 17) := ⟨⟨by decide +kernel, by decide +kernel⟩, List.mem_of_getElem? (i := 13) (by decide +kernel), List.mem_of_getElem? (i := 664) (by decide +kernel), List.mem_of_getElem? (i := 665) (by decide +kernel)⟩
def lw_privs_1 : List (MethodName × Nat) := [(⟨"StrangersWind", "found", "(I)I"⟩, 17), (⟨"StrangersWind", "refusedPlace", "(II)I"⟩, 17), (⟨"StrangersWind$Reader", "skipBlanks", "()V"⟩, 3), (⟨"StrangersWind$Reader", "readSpring", "(LStrangersWind$Town;)Z"⟩, 3), (⟨"StrangersWind$Reader", "readFigure", "(II)I"⟩, 3), (⟨"StrangersWind$Reader", "readStranger", "(LStrangersWind$Town;I)Z"⟩, 3), (⟨"StrangersWind$Reader", "readKind", "()I"⟩, 3), (⟨"StrangersWind$Town", "carryOut", "(II)V"⟩, 15), (⟨"StrangersWind", "refusedGuests", "(IIZ)I"⟩, 17), (⟨"StrangersWind", "canAllCome", "(IZ)Z"⟩, 17), (⟨"StrangersWind", "fillRow", "(I[II)V"⟩, 17), (⟨"StrangersWind$Lettings", "weigh", "(III)V"⟩, 9), (⟨"StrangersWind", "tell", "(JJ)V"⟩, 17), (⟨"StrangersWind$Beard", "tally", "(I)V"⟩, 8), (⟨"StrangersWind", "refusedBeard", "(I)I"⟩, 17), (⟨"StrangersWind", "firstFalsePair", "([II)I"⟩, 17)]
theorem lw_r1 : ∀ q ∈ lw_privs_1, lw_okq q := List.forall_mem_cons.mpr ⟨lw_p0, List.forall_mem_cons.mpr ⟨lw_p1, List.forall_mem_cons.mpr ⟨lw_p2, List.forall_mem_cons.mpr ⟨lw_p3, List.forall_mem_cons.mpr ⟨lw_p4, List.forall_mem_cons.mpr ⟨lw_p5, List.forall_mem_cons.mpr ⟨lw_p6, List.forall_mem_cons.mpr ⟨lw_p7, List.forall_mem_cons.mpr ⟨lw_p8, List.forall_mem_cons.mpr ⟨lw_p9, List.forall_mem_cons.mpr ⟨lw_p10, List.forall_mem_cons.mpr ⟨lw_p11, List.forall_mem_cons.mpr ⟨lw_p12, List.forall_mem_cons.mpr ⟨lw_p13, List.forall_mem_cons.mpr ⟨lw_p14, List.forall_mem_cons.mpr ⟨lw_p15, fun _ h => absurd h List.not_mem_nil⟩⟩⟩⟩⟩⟩⟩⟩⟩⟩⟩⟩⟩⟩⟩⟩
theorem lw_p16 : lw_okq (⟨"StrangersWind", "noteLot", "(J)V"⟩, 17) := ⟨⟨by decide +kernel, by decide +kernel⟩, List.mem_of_getElem? (i := 13) (by decide +kernel), List.mem_of_getElem? (i := 694) (by decide +kernel), List.mem_of_getElem? (i := 695) (by decide +kernel)⟩
theorem lw_p17 : lw_okq (⟨"StrangersWind", "thoseKept", "()I"⟩, 17) := ⟨⟨by decide +kernel, by decide +kernel⟩, List.mem_of_getElem? (i := 13) (by decide +kernel), List.mem_of_getElem? (i := 720) (by decide +kernel), List.mem_of_getElem? (i := 721) (by decide +kernel)⟩
theorem lw_p18 : lw_okq (⟨"StrangersWindModel", "find", "(I)I"⟩, 29) := ⟨⟨by decide +kernel, by decide +kernel⟩, List.mem_of_getElem? (i := 739) (by decide +kernel), List.mem_of_getElem? (i := 844) (by decide +kernel), List.mem_of_getElem? (i := 845) (by decide +kernel)⟩
theorem lw_p19 : lw_okq (⟨"StrangersWindModel", "makeRow", "(II)V"⟩, 29) := ⟨⟨by decide +kernel, by decide +kernel⟩, List.mem_of_getElem? (i := 739) (by decide +kernel), List.mem_of_getElem? (i := 848) (by decide +kernel), List.mem_of_getElem? (i := 849) (by decide +kernel)⟩
theorem lw_p20 : lw_okq (⟨"StrangersWindModel", "refused", "(II)I"⟩, 29) := ⟨⟨by decide +kernel, by decide +kernel⟩, List.mem_of_getElem? (i := 739) (by decide +kernel), List.mem_of_getElem? (i := 856) (by decide +kernel), List.mem_of_getElem? (i := 857) (by decide +kernel)⟩
theorem lw_p21 : lw_okq (⟨"StrangersWindModel", "tell", "(I)I"⟩, 29) := ⟨⟨by decide +kernel, by decide +kernel⟩, List.mem_of_getElem? (i := 739) (by decide +kernel), List.mem_of_getElem? (i := 860) (by decide +kernel), List.mem_of_getElem? (i := 861) (by decide +kernel)⟩
theorem lw_p22 : lw_okq (⟨"StrangersWindModel", "isSpan", "(III)Z"⟩, 29) := ⟨⟨by decide +kernel, by decide +kernel⟩, List.mem_of_getElem? (i := 739) (by decide +kernel), List.mem_of_getElem? (i := 876) (by decide +kernel), List.mem_of_getElem? (i := 877) (by decide +kernel)⟩
theorem lw_p23 : lw_okq (⟨"StrangersWindModel", "faultOf", "(I)I"⟩, 29) := ⟨⟨by decide +kernel, by decide +kernel⟩, List.mem_of_getElem? (i := 739) (by decide +kernel), List.mem_of_getElem? (i := 900) (by decide +kernel), List.mem_of_getElem? (i := 901) (by decide +kernel)⟩
theorem lw_p24 : lw_okq (⟨"StrangersWindModel", "readsSpring", "()Z"⟩, 29) := ⟨⟨by decide +kernel, by decide +kernel⟩, List.mem_of_getElem? (i := 739) (by decide +kernel), List.mem_of_getElem? (i := 904) (by decide +kernel), List.mem_of_getElem? (i := 905) (by decide +kernel)⟩
theorem lw_p25 : lw_okq (⟨"StrangersWindModel", "skip", "()V"⟩, 29) := ⟨⟨by decide +kernel, by decide +kernel⟩, List.mem_of_getElem? (i := 739) (by decide +kernel), List.mem_of_getElem? (i := 908) (by decide +kernel), List.mem_of_getElem? (i := 909) (by decide +kernel)⟩
theorem lw_p26 : lw_okq (⟨"StrangersWindModel", "here", "()I"⟩, 29) := ⟨⟨by decide +kernel, by decide +kernel⟩, List.mem_of_getElem? (i := 739) (by decide +kernel), List.mem_of_getElem? (i := 912) (by decide +kernel), List.mem_of_getElem? (i := 913) (by decide +kernel)⟩
theorem lw_p27 : lw_okq (⟨"StrangersWindModel", "figure", "(II)I"⟩, 29) := ⟨⟨by decide +kernel, by decide +kernel⟩, List.mem_of_getElem? (i := 739) (by decide +kernel), List.mem_of_getElem? (i := 916) (by decide +kernel), List.mem_of_getElem? (i := 917) (by decide +kernel)⟩
theorem lw_p28 : lw_okq (⟨"StrangersWindModel", "readsStranger", "()Z"⟩, 29) := ⟨⟨by decide +kernel, by decide +kernel⟩, List.mem_of_getElem? (i := 739) (by decide +kernel), List.mem_of_getElem? (i := 920) (by decide +kernel), List.mem_of_getElem? (i := 921) (by decide +kernel)⟩
theorem lw_p29 : lw_okq (⟨"StrangersWindModel", "isStranger", "(I)Z"⟩, 29) := ⟨⟨by decide +kernel, by decide +kernel⟩, List.mem_of_getElem? (i := 739) (by decide +kernel), List.mem_of_getElem? (i := 935) (by decide +kernel), List.mem_of_getElem? (i := 936) (by decide +kernel)⟩
theorem lw_p30 : lw_okq (⟨"StrangersWindModel", "toldOf", "(II)I"⟩, 29) := ⟨⟨by decide +kernel, by decide +kernel⟩, List.mem_of_getElem? (i := 739) (by decide +kernel), List.mem_of_getElem? (i := 939) (by decide +kernel), List.mem_of_getElem? (i := 940) (by decide +kernel)⟩
theorem lw_p31 : lw_okq (⟨"StrangersWindModel", "turnsOf", "(II)I"⟩, 29) := ⟨⟨by decide +kernel, by decide +kernel⟩, List.mem_of_getElem? (i := 739) (by decide +kernel), List.mem_of_getElem? (i := 943) (by decide +kernel), List.mem_of_getElem? (i := 944) (by decide +kernel)⟩
def lw_privs_2 : List (MethodName × Nat) := [(⟨"StrangersWind", "noteLot", "(J)V"⟩, 17), (⟨"StrangersWind", "thoseKept", "()I"⟩, 17), (⟨"StrangersWindModel", "find", "(I)I"⟩, 29), (⟨"StrangersWindModel", "makeRow", "(II)V"⟩, 29), (⟨"StrangersWindModel", "refused", "(II)I"⟩, 29), (⟨"StrangersWindModel", "tell", "(I)I"⟩, 29), (⟨"StrangersWindModel", "isSpan", "(III)Z"⟩, 29), (⟨"StrangersWindModel", "faultOf", "(I)I"⟩, 29), (⟨"StrangersWindModel", "readsSpring", "()Z"⟩, 29), (⟨"StrangersWindModel", "skip", "()V"⟩, 29), (⟨"StrangersWindModel", "here", "()I"⟩, 29), (⟨"StrangersWindModel", "figure", "(II)I"⟩, 29), (⟨"StrangersWindModel", "readsStranger", "()Z"⟩, 29), (⟨"StrangersWindModel", "isStranger", "(I)Z"⟩, 29), (⟨"StrangersWindModel", "toldOf", "(II)I"⟩, 29), (⟨"StrangersWindModel", "turnsOf", "(II)I"⟩, 29)]
theorem lw_r2 : ∀ q ∈ lw_privs_2, lw_okq q := List.forall_mem_cons.mpr ⟨lw_p16, List.forall_mem_cons.mpr ⟨lw_p17, List.forall_mem_cons.mpr ⟨lw_p18, List.forall_mem_cons.mpr ⟨lw_p19, List.forall_mem_cons.mpr ⟨lw_p20, List.forall_mem_cons.mpr ⟨lw_p21, List.forall_mem_cons.mpr ⟨lw_p22, List.forall_mem_cons.mpr ⟨lw_p23, List.forall_mem_cons.mpr ⟨lw_p24, List.forall_mem_cons.mpr ⟨lw_p25, List.forall_mem_cons.mpr ⟨lw_p26, List.forall_mem_cons.mpr ⟨lw_p27, List.forall_mem_cons.mpr ⟨lw_p28, List.forall_mem_cons.mpr ⟨lw_p29, List.forall_mem_cons.mpr ⟨lw_p30, List.forall_mem_cons.mpr ⟨lw_p31, fun _ h => absurd h List.not_mem_nil⟩⟩⟩⟩⟩⟩⟩⟩⟩⟩⟩⟩⟩⟩⟩⟩
theorem lw_p32 : lw_okq (⟨"StrangersWindModel", "pilgrims", "(I)I"⟩, 29) := ⟨⟨by decide +kernel, by decide +kernel⟩, List.mem_of_getElem? (i := 739) (by decide +kernel), List.mem_of_getElem? (i := 947) (by decide +kernel), List.mem_of_getElem? (i := 948) (by decide +kernel)⟩
theorem lw_p33 : lw_okq (⟨"StrangersWindModel", "isOf", "(II)Z"⟩, 29) := ⟨⟨by decide +kernel, by decide +kernel⟩, List.mem_of_getElem? (i := 739) (by decide +kernel), List.mem_of_getElem? (i := 961) (by decide +kernel), List.mem_of_getElem? (i := 962) (by decide +kernel)⟩
theorem lw_p34 : lw_okq (⟨"StrangersWindModel", "isIn", "(II)Z"⟩, 29) := ⟨⟨by decide +kernel, by decide +kernel⟩, List.mem_of_getElem? (i := 739) (by decide +kernel), List.mem_of_getElem? (i := 973) (by decide +kernel), List.mem_of_getElem? (i := 974) (by decide +kernel)⟩
theorem lw_p35 : lw_okq (⟨"StrangersWindModel", "doLet", "(I)I"⟩, 29) := ⟨⟨by decide +kernel, by decide +kernel⟩, List.mem_of_getElem? (i := 739) (by decide +kernel), List.mem_of_getElem? (i := 977) (by decide +kernel), List.mem_of_getElem? (i := 978) (by decide +kernel)⟩
theorem lw_p36 : lw_okq (⟨"StrangersWindModel", "keepPast", "()V"⟩, 29) := ⟨⟨by decide +kernel, by decide +kernel⟩, List.mem_of_getElem? (i := 739) (by decide +kernel), List.mem_of_getElem? (i := 981) (by decide +kernel), List.mem_of_getElem? (i := 982) (by decide +kernel)⟩
theorem lw_p37 : lw_okq (⟨"StrangersWindModel", "comesIn", "(II)V"⟩, 29) := ⟨⟨by decide +kernel, by decide +kernel⟩, List.mem_of_getElem? (i := 739) (by decide +kernel), List.mem_of_getElem? (i := 985) (by decide +kernel), List.mem_of_getElem? (i := 986) (by decide +kernel)⟩
theorem lw_p38 : lw_okq (⟨"StrangersWindModel", "doLeave", "(I)I"⟩, 29) := ⟨⟨by decide +kernel, by decide +kernel⟩, List.mem_of_getElem? (i := 739) (by decide +kernel), List.mem_of_getElem? (i := 993) (by decide +kernel), List.mem_of_getElem? (i := 994) (by decide +kernel)⟩
theorem lw_p39 : lw_okq (⟨"StrangersWindModel", "pass", "(I)I"⟩, 29) := ⟨⟨by decide +kernel, by decide +kernel⟩, List.mem_of_getElem? (i := 739) (by decide +kernel), List.mem_of_getElem? (i := 1001) (by decide +kernel), List.mem_of_getElem? (i := 1002) (by decide +kernel)⟩
theorem lw_p40 : lw_okq (⟨"StrangersWindModel", "copyTown", "(II)V"⟩, 29) := ⟨⟨by decide +kernel, by decide +kernel⟩, List.mem_of_getElem? (i := 739) (by decide +kernel), List.mem_of_getElem? (i := 1018) (by decide +kernel), List.mem_of_getElem? (i := 1019) (by decide +kernel)⟩
theorem lw_p41 : lw_okq (⟨"StrangersWindModel", "layTried", "()V"⟩, 29) := ⟨⟨by decide +kernel, by decide +kernel⟩, List.mem_of_getElem? (i := 739) (by decide +kernel), List.mem_of_getElem? (i := 1030) (by decide +kernel), List.mem_of_getElem? (i := 1031) (by decide +kernel)⟩
theorem lw_p42 : lw_okq (⟨"StrangersWindModel", "lastsTried", "()I"⟩, 29) := ⟨⟨by decide +kernel, by decide +kernel⟩, List.mem_of_getElem? (i := 739) (by decide +kernel), List.mem_of_getElem? (i := 1034) (by decide +kernel), List.mem_of_getElem? (i := 1035) (by decide +kernel)⟩
theorem lw_p43 : lw_okq (⟨"StrangersWindModel", "noRow", "(IIZ)I"⟩, 29) := ⟨⟨by decide +kernel, by decide +kernel⟩, List.mem_of_getElem? (i := 739) (by decide +kernel), List.mem_of_getElem? (i := 1042) (by decide +kernel), List.mem_of_getElem? (i := 1043) (by decide +kernel)⟩
theorem lw_p44 : lw_okq (⟨"StrangersWindModel", "isOut", "(I)Z"⟩, 29) := ⟨⟨by decide +kernel, by decide +kernel⟩, List.mem_of_getElem? (i := 739) (by decide +kernel), List.mem_of_getElem? (i := 1050) (by decide +kernel), List.mem_of_getElem? (i := 1051) (by decide +kernel)⟩
theorem lw_p45 : lw_okq (⟨"StrangersWindModel", "out", "()I"⟩, 29) := ⟨⟨by decide +kernel, by decide +kernel⟩, List.mem_of_getElem? (i := 739) (by decide +kernel), List.mem_of_getElem? (i := 1054) (by decide +kernel), List.mem_of_getElem? (i := 1055) (by decide +kernel)⟩
theorem lw_p46 : lw_okq (⟨"StrangersWindModel", "woundBy", "(I)I"⟩, 29) := ⟨⟨by decide +kernel, by decide +kernel⟩, List.mem_of_getElem? (i := 739) (by decide +kernel), List.mem_of_getElem? (i := 1058) (by decide +kernel), List.mem_of_getElem? (i := 1059) (by decide +kernel)⟩
theorem lw_p47 : lw_okq (⟨"StrangersWindModel", "comeTried", "(I)V"⟩, 29) := ⟨⟨by decide +kernel, by decide +kernel⟩, List.mem_of_getElem? (i := 739) (by decide +kernel), List.mem_of_getElem? (i := 1062) (by decide +kernel), List.mem_of_getElem? (i := 1063) (by decide +kernel)⟩
def lw_privs_3 : List (MethodName × Nat) := [(⟨"StrangersWindModel", "pilgrims", "(I)I"⟩, 29), (⟨"StrangersWindModel", "isOf", "(II)Z"⟩, 29), (⟨"StrangersWindModel", "isIn", "(II)Z"⟩, 29), (⟨"StrangersWindModel", "doLet", "(I)I"⟩, 29), (⟨"StrangersWindModel", "keepPast", "()V"⟩, 29), (⟨"StrangersWindModel", "comesIn", "(II)V"⟩, 29), (⟨"StrangersWindModel", "doLeave", "(I)I"⟩, 29), (⟨"StrangersWindModel", "pass", "(I)I"⟩, 29), (⟨"StrangersWindModel", "copyTown", "(II)V"⟩, 29), (⟨"StrangersWindModel", "layTried", "()V"⟩, 29), (⟨"StrangersWindModel", "lastsTried", "()I"⟩, 29), (⟨"StrangersWindModel", "noRow", "(IIZ)I"⟩, 29), (⟨"StrangersWindModel", "isOut", "(I)Z"⟩, 29), (⟨"StrangersWindModel", "out", "()I"⟩, 29), (⟨"StrangersWindModel", "woundBy", "(I)I"⟩, 29), (⟨"StrangersWindModel", "comeTried", "(I)V"⟩, 29)]
theorem lw_r3 : ∀ q ∈ lw_privs_3, lw_okq q := List.forall_mem_cons.mpr ⟨lw_p32, List.forall_mem_cons.mpr ⟨lw_p33, List.forall_mem_cons.mpr ⟨lw_p34, List.forall_mem_cons.mpr ⟨lw_p35, List.forall_mem_cons.mpr ⟨lw_p36, List.forall_mem_cons.mpr ⟨lw_p37, List.forall_mem_cons.mpr ⟨lw_p38, List.forall_mem_cons.mpr ⟨lw_p39, List.forall_mem_cons.mpr ⟨lw_p40, List.forall_mem_cons.mpr ⟨lw_p41, List.forall_mem_cons.mpr ⟨lw_p42, List.forall_mem_cons.mpr ⟨lw_p43, List.forall_mem_cons.mpr ⟨lw_p44, List.forall_mem_cons.mpr ⟨lw_p45, List.forall_mem_cons.mpr ⟨lw_p46, List.forall_mem_cons.mpr ⟨lw_p47, fun _ h => absurd h List.not_mem_nil⟩⟩⟩⟩⟩⟩⟩⟩⟩⟩⟩⟩⟩⟩⟩⟩
theorem lw_p48 : lw_okq (⟨"StrangersWindModel", "nextOrder", "(I)Z"⟩, 29) := ⟨⟨by decide +kernel, by decide +kernel⟩, List.mem_of_getElem? (i := 739) (by decide +kernel), List.mem_of_getElem? (i := 1070) (by decide +kernel), List.mem_of_getElem? (i := 1071) (by decide +kernel)⟩
theorem lw_p49 : lw_okq (⟨"StrangersWindModel", "leastBread", "(II)I"⟩, 29) := ⟨⟨by decide +kernel, by decide +kernel⟩, List.mem_of_getElem? (i := 739) (by decide +kernel), List.mem_of_getElem? (i := 1079) (by decide +kernel), List.mem_of_getElem? (i := 1080) (by decide +kernel)⟩
theorem lw_p50 : lw_okq (⟨"StrangersWindModel", "power", "(I)I"⟩, 29) := ⟨⟨by decide +kernel, by decide +kernel⟩, List.mem_of_getElem? (i := 739) (by decide +kernel), List.mem_of_getElem? (i := 1083) (by decide +kernel), List.mem_of_getElem? (i := 1084) (by decide +kernel)⟩
theorem lw_p51 : lw_okq (⟨"StrangersWindModel", "isLetting", "(II)Z"⟩, 29) := ⟨⟨by decide +kernel, by decide +kernel⟩, List.mem_of_getElem? (i := 739) (by decide +kernel), List.mem_of_getElem? (i := 1087) (by decide +kernel), List.mem_of_getElem? (i := 1088) (by decide +kernel)⟩
theorem lw_p52 : lw_okq (⟨"StrangersWindModel", "whoOf", "(III)I"⟩, 29) := ⟨⟨by decide +kernel, by decide +kernel⟩, List.mem_of_getElem? (i := 739) (by decide +kernel), List.mem_of_getElem? (i := 1091) (by decide +kernel), List.mem_of_getElem? (i := 1092) (by decide +kernel)⟩
theorem lw_p53 : lw_okq (⟨"StrangersWindModel", "layFits", "(I)I"⟩, 29) := ⟨⟨by decide +kernel, by decide +kernel⟩, List.mem_of_getElem? (i := 739) (by decide +kernel), List.mem_of_getElem? (i := 1112) (by decide +kernel), List.mem_of_getElem? (i := 1113) (by decide +kernel)⟩
theorem lw_p54 : lw_okq (⟨"StrangersWindModel", "noFits", "(I)I"⟩, 29) := ⟨⟨by decide +kernel, by decide +kernel⟩, List.mem_of_getElem? (i := 739) (by decide +kernel), List.mem_of_getElem? (i := 1120) (by decide +kernel), List.mem_of_getElem? (i := 1121) (by decide +kernel)⟩
theorem lw_p55 : lw_okq (⟨"StrangersWindModel", "greater", "(I)I"⟩, 29) := ⟨⟨by decide +kernel, by decide +kernel⟩, List.mem_of_getElem? (i := 739) (by decide +kernel), List.mem_of_getElem? (i := 1128) (by decide +kernel), List.mem_of_getElem? (i := 1129) (by decide +kernel)⟩
theorem lw_p56 : lw_okq (⟨"StrangersWindModel", "worthOf", "(II)I"⟩, 29) := ⟨⟨by decide +kernel, by decide +kernel⟩, List.mem_of_getElem? (i := 739) (by decide +kernel), List.mem_of_getElem? (i := 1141) (by decide +kernel), List.mem_of_getElem? (i := 1142) (by decide +kernel)⟩
theorem lw_p57 : lw_okq (⟨"StrangersWindModel", "waysOf", "(II)J"⟩, 29) := ⟨⟨by decide +kernel, by decide +kernel⟩, List.mem_of_getElem? (i := 739) (by decide +kernel), List.mem_of_getElem? (i := 1162) (by decide +kernel), List.mem_of_getElem? (i := 1163) (by decide +kernel)⟩
theorem lw_p58 : lw_okq (⟨"StrangersWindModel", "tellParts", "(JJ)I"⟩, 29) := ⟨⟨by decide +kernel, by decide +kernel⟩, List.mem_of_getElem? (i := 739) (by decide +kernel), List.mem_of_getElem? (i := 1166) (by decide +kernel), List.mem_of_getElem? (i := 1167) (by decide +kernel)⟩
theorem lw_p59 : lw_okq (⟨"StrangersWindModel", "countOf", "(I)I"⟩, 29) := ⟨⟨by decide +kernel, by decide +kernel⟩, List.mem_of_getElem? (i := 739) (by decide +kernel), List.mem_of_getElem? (i := 1199) (by decide +kernel), List.mem_of_getElem? (i := 1200) (by decide +kernel)⟩
theorem lw_p60 : lw_okq (⟨"StrangersWindModel", "strongs", "()I"⟩, 29) := ⟨⟨by decide +kernel, by decide +kernel⟩, List.mem_of_getElem? (i := 739) (by decide +kernel), List.mem_of_getElem? (i := 1203) (by decide +kernel), List.mem_of_getElem? (i := 1204) (by decide +kernel)⟩
theorem lw_p61 : lw_okq (⟨"StrangersWindModel", "thereOf", "(I)I"⟩, 29) := ⟨⟨by decide +kernel, by decide +kernel⟩, List.mem_of_getElem? (i := 739) (by decide +kernel), List.mem_of_getElem? (i := 1207) (by decide +kernel), List.mem_of_getElem? (i := 1208) (by decide +kernel)⟩
def lw_privs_4 : List (MethodName × Nat) := [(⟨"StrangersWindModel", "nextOrder", "(I)Z"⟩, 29), (⟨"StrangersWindModel", "leastBread", "(II)I"⟩, 29), (⟨"StrangersWindModel", "power", "(I)I"⟩, 29), (⟨"StrangersWindModel", "isLetting", "(II)Z"⟩, 29), (⟨"StrangersWindModel", "whoOf", "(III)I"⟩, 29), (⟨"StrangersWindModel", "layFits", "(I)I"⟩, 29), (⟨"StrangersWindModel", "noFits", "(I)I"⟩, 29), (⟨"StrangersWindModel", "greater", "(I)I"⟩, 29), (⟨"StrangersWindModel", "worthOf", "(II)I"⟩, 29), (⟨"StrangersWindModel", "waysOf", "(II)J"⟩, 29), (⟨"StrangersWindModel", "tellParts", "(JJ)I"⟩, 29), (⟨"StrangersWindModel", "countOf", "(I)I"⟩, 29), (⟨"StrangersWindModel", "strongs", "()I"⟩, 29), (⟨"StrangersWindModel", "thereOf", "(I)I"⟩, 29)]
theorem lw_r4 : ∀ q ∈ lw_privs_4, lw_okq q := List.forall_mem_cons.mpr ⟨lw_p48, List.forall_mem_cons.mpr ⟨lw_p49, List.forall_mem_cons.mpr ⟨lw_p50, List.forall_mem_cons.mpr ⟨lw_p51, List.forall_mem_cons.mpr ⟨lw_p52, List.forall_mem_cons.mpr ⟨lw_p53, List.forall_mem_cons.mpr ⟨lw_p54, List.forall_mem_cons.mpr ⟨lw_p55, List.forall_mem_cons.mpr ⟨lw_p56, List.forall_mem_cons.mpr ⟨lw_p57, List.forall_mem_cons.mpr ⟨lw_p58, List.forall_mem_cons.mpr ⟨lw_p59, List.forall_mem_cons.mpr ⟨lw_p60, List.forall_mem_cons.mpr ⟨lw_p61, fun _ h => absurd h List.not_mem_nil⟩⟩⟩⟩⟩⟩⟩⟩⟩⟩⟩⟩⟩⟩
def lw_privs : List (MethodName × Nat) := lw_privs_1 ++ (lw_privs_2 ++ (lw_privs_3 ++ (lw_privs_4)))
def lw_tbl : List Cond := k2_sels lw_privs ++ tables_1
theorem lw_privs_ok : ∀ q ∈ lw_privs, lw_okq q := by
  show ∀ q ∈ lw_privs_1 ++ (lw_privs_2 ++ (lw_privs_3 ++ (lw_privs_4))), lw_okq q
  exact List.forall_mem_append.mpr ⟨lw_r1, List.forall_mem_append.mpr ⟨lw_r2, List.forall_mem_append.mpr ⟨lw_r3, lw_r4⟩⟩⟩
end
section
def RX0 : String := "StrangersWind$Beard"
def TX0 : u_T := fun k => match k with
  | 0 => ("StrangersWind$Beard", "town", "LStrangersWind$Town;", true)
  | 1 => ("StrangersWind$Beard", "sets", "I", false)
  | 2 => ("StrangersWind$Beard", "first", "I", false)
  | 3 => ("StrangersWind$Beard", "inAll", "I", false)
  | 4 => ("StrangersWind$Beard", "inSome", "I", false)
  | 5 => ("StrangersWind$Beard", "fewest", "I", false)
  | 6 => ("StrangersWind$Beard", "most", "I", false)
  | _ => ("StrangersWind$Beard", "with", "[I", true)
def tyX0 : Nat → FieldType := fun k => match k with
  | 0 => .object "StrangersWind$Town"
  | 1 => .int
  | 2 => .int
  | 3 => .int
  | 4 => .int
  | 5 => .int
  | 6 => .int
  | _ => .array .int
abbrev wsX00 : List Cond := u_ws RX0 TX0 8
theorem nmX0 : ∀ a, a < 8 → ∀ b, b < 8 → a ≠ b → (TX0 a).2.1 ≠ (TX0 b).2.1 := by decide +kernel
theorem tyX0_ok : ∀ k, k < 8 → parseFieldDescriptor (TX0 k).2.2.1 = some (tyX0 k) := by decide +kernel
abbrev cX0_init : ByteArray := prog_2_method_1_code
def yX0_init : MethodName := ⟨RX0, "<init>", "(LStrangersWind$Town;)V"⟩
abbrev cX0_search : ByteArray := prog_2_method_2_code
def yX0_search : MethodName := ⟨RX0, "search", "(I)V"⟩
abbrev cX0_tally : ByteArray := prog_2_method_3_code
def yX0_tally : MethodName := ⟨RX0, "tally", "(I)V"⟩
def RX1 : String := "StrangersWind$Lettings"
def TX1 : u_T := fun k => match k with
  | 0 => ("StrangersWind$Lettings", "town", "LStrangersWind$Town;", true)
  | 1 => ("StrangersWind$Lettings", "hours", "I", false)
  | 2 => ("StrangersWind$Lettings", "told", "I", false)
  | 3 => ("StrangersWind$Lettings", "tried", "[I", true)
  | 4 => ("StrangersWind$Lettings", "best", "[I", true)
  | 5 => ("StrangersWind$Lettings", "ways", "I", false)
  | 6 => ("StrangersWind$Lettings", "leastBread", "I", false)
  | 7 => ("StrangersWind$Lettings", "mostHours", "I", false)
  | _ => ("StrangersWind$Lettings", "fewest", "I", false)
def tyX1 : Nat → FieldType := fun k => match k with
  | 0 => .object "StrangersWind$Town"
  | 1 => .int
  | 2 => .int
  | 3 => .array .int
  | 4 => .array .int
  | 5 => .int
  | 6 => .int
  | 7 => .int
  | _ => .int
abbrev wsX10 : List Cond := u_ws RX1 TX1 9
theorem nmX1 : ∀ a, a < 9 → ∀ b, b < 9 → a ≠ b → (TX1 a).2.1 ≠ (TX1 b).2.1 := by decide +kernel
theorem tyX1_ok : ∀ k, k < 9 → parseFieldDescriptor (TX1 k).2.2.1 = some (tyX1 k) := by decide +kernel
abbrev cX1_init : ByteArray := prog_3_method_1_code
def yX1_init : MethodName := ⟨RX1, "<init>", "(LStrangersWind$Town;)V"⟩
abbrev cX1_search : ByteArray := prog_3_method_2_code
def yX1_search : MethodName := ⟨RX1, "search", "(II)V"⟩
abbrev cX1_letIn : ByteArray := prog_3_method_3_code
def yX1_letIn : MethodName := ⟨RX1, "letIn", "(LStrangersWind$Lettings;IIIII)V"⟩
abbrev cX1_weigh : ByteArray := prog_3_method_4_code
def yX1_weigh : MethodName := ⟨RX1, "weigh", "(III)V"⟩
def RX2 : String := "StrangersWind$Orders"
def TX2 : u_T := fun k => match k with
  | 0 => ("StrangersWind$Orders", "town", "LStrangersWind$Town;", true)
  | 1 => ("StrangersWind$Orders", "tried", "[I", true)
  | 2 => ("StrangersWind$Orders", "best", "[I", true)
  | 3 => ("StrangersWind$Orders", "due", "I", false)
  | _ => ("StrangersWind$Orders", "farthest", "I", false)
def tyX2 : Nat → FieldType := fun k => match k with
  | 0 => .object "StrangersWind$Town"
  | 1 => .array .int
  | 2 => .array .int
  | 3 => .int
  | _ => .int
abbrev wsX20 : List Cond := u_ws RX2 TX2 5
theorem nmX2 : ∀ a, a < 5 → ∀ b, b < 5 → a ≠ b → (TX2 a).2.1 ≠ (TX2 b).2.1 := by decide +kernel
theorem tyX2_ok : ∀ k, k < 5 → parseFieldDescriptor (TX2 k).2.2.1 = some (tyX2 k) := by decide +kernel
abbrev cX2_init : ByteArray := prog_4_method_1_code
def yX2_init : MethodName := ⟨RX2, "<init>", "(LStrangersWind$Town;)V"⟩
abbrev cX2_search : ByteArray := prog_4_method_2_code
def yX2_search : MethodName := ⟨RX2, "search", "()V"⟩
abbrev cX2_lineUp : ByteArray := prog_4_method_3_code
def yX2_lineUp : MethodName := ⟨RX2, "lineUp", "(LStrangersWind$Orders;III)V"⟩
def RX3 : String := "StrangersWind$Reader"
def TX3 : u_T := fun k => match k with
  | 0 => ("StrangersWind$Reader", "bytes", "[B", false)
  | 1 => ("StrangersWind$Reader", "size", "I", false)
  | _ => ("StrangersWind$Reader", "place", "I", false)
def tyX3 : Nat → FieldType := fun k => match k with
  | 0 => .array .byte
  | 1 => .int
  | _ => .int
abbrev wsX30 : List Cond := u_ws RX3 TX3 3
theorem nmX3 : ∀ a, a < 3 → ∀ b, b < 3 → a ≠ b → (TX3 a).2.1 ≠ (TX3 b).2.1 := by decide +kernel
theorem tyX3_ok : ∀ k, k < 3 → parseFieldDescriptor (TX3 k).2.2.1 = some (tyX3 k) := by decide +kernel
abbrev cX3_init : ByteArray := prog_5_method_1_code
def yX3_init : MethodName := ⟨RX3, "<init>", "()V"⟩
abbrev cX3_readTown : ByteArray := prog_5_method_2_code
def yX3_readTown : MethodName := ⟨RX3, "readTown", "([BILStrangersWind$Town;)I"⟩
abbrev cX3_skipBlanks : ByteArray := prog_5_method_3_code
def yX3_skipBlanks : MethodName := ⟨RX3, "skipBlanks", "()V"⟩
abbrev cX3_readSpring : ByteArray := prog_5_method_4_code
def yX3_readSpring : MethodName := ⟨RX3, "readSpring", "(LStrangersWind$Town;)Z"⟩
abbrev cX3_readStranger : ByteArray := prog_5_method_5_code
def yX3_readStranger : MethodName := ⟨RX3, "readStranger", "(LStrangersWind$Town;I)Z"⟩
abbrev cX3_readKind : ByteArray := prog_5_method_6_code
def yX3_readKind : MethodName := ⟨RX3, "readKind", "()I"⟩
abbrev cX3_kindOf : ByteArray := prog_5_method_7_code
def yX3_kindOf : MethodName := ⟨RX3, "kindOf", "(I)I"⟩
abbrev cX3_readFigure : ByteArray := prog_5_method_8_code
def yX3_readFigure : MethodName := ⟨RX3, "readFigure", "(II)I"⟩
def RX4 : String := "StrangersWind$Town"
def TX4 : u_T := fun k => match k with
  | 0 => ("StrangersWind$Town", "size", "I", false)
  | 1 => ("StrangersWind$Town", "kinds", "[I", true)
  | 2 => ("StrangersWind$Town", "strengths", "[I", true)
  | 3 => ("StrangersWind$Town", "gates", "[I", true)
  | 4 => ("StrangersWind$Town", "breads", "[I", true)
  | 5 => ("StrangersWind$Town", "firstWound", "I", false)
  | 6 => ("StrangersWind$Town", "firstFrost", "I", false)
  | 7 => ("StrangersWind$Town", "wound", "I", false)
  | 8 => ("StrangersWind$Town", "frost", "I", false)
  | 9 => ("StrangersWind$Town", "clock", "I", false)
  | 10 => ("StrangersWind$Town", "hours", "I", false)
  | 11 => ("StrangersWind$Town", "in", "I", false)
  | 12 => ("StrangersWind$Town", "deeds", "[I", true)
  | 13 => ("StrangersWind$Town", "deedNumbers", "[I", true)
  | _ => ("StrangersWind$Town", "done", "I", false)
def tyX4 : Nat → FieldType := fun k => match k with
  | 0 => .int
  | 1 => .array .int
  | 2 => .array .int
  | 3 => .array .int
  | 4 => .array .int
  | 5 => .int
  | 6 => .int
  | 7 => .int
  | 8 => .int
  | 9 => .int
  | 10 => .int
  | 11 => .int
  | 12 => .array .int
  | 13 => .array .int
  | _ => .int
abbrev wsX40 : List Cond := u_ws RX4 TX4 15
theorem nmX4 : ∀ a, a < 15 → ∀ b, b < 15 → a ≠ b → (TX4 a).2.1 ≠ (TX4 b).2.1 := by decide +kernel
theorem tyX4_ok : ∀ k, k < 15 → parseFieldDescriptor (TX4 k).2.2.1 = some (tyX4 k) := by decide +kernel
abbrev cX4_init : ByteArray := prog_6_method_1_code
def yX4_init : MethodName := ⟨RX4, "<init>", "()V"⟩
abbrev cX4_takeFrom : ByteArray := prog_6_method_2_code
def yX4_takeFrom : MethodName := ⟨RX4, "takeFrom", "(LStrangersWind$Town;)V"⟩
abbrev cX4_begin : ByteArray := prog_6_method_3_code
def yX4_begin : MethodName := ⟨RX4, "begin", "()V"⟩
abbrev cX4_has : ByteArray := prog_6_method_4_code
def yX4_has : MethodName := ⟨RX4, "has", "(I)Z"⟩
abbrev cX4_isIn : ByteArray := prog_6_method_5_code
def yX4_isIn : MethodName := ⟨RX4, "isIn", "(I)Z"⟩
abbrev cX4_sets : ByteArray := prog_6_method_6_code
def yX4_sets : MethodName := ⟨RX4, "sets", "()I"⟩
abbrev cX4_notIn : ByteArray := prog_6_method_7_code
def yX4_notIn : MethodName := ⟨RX4, "notIn", "()I"⟩
abbrev cX4_isFull : ByteArray := prog_6_method_8_code
def yX4_isFull : MethodName := ⟨RX4, "isFull", "(I)Z"⟩
abbrev cX4_note : ByteArray := prog_6_method_9_code
def yX4_note : MethodName := ⟨RX4, "note", "(II)V"⟩
abbrev cX4_redo : ByteArray := prog_6_method_10_code
def yX4_redo : MethodName := ⟨RX4, "redo", "(I)V"⟩
abbrev cX4_carryOut : ByteArray := prog_6_method_11_code
def yX4_carryOut : MethodName := ⟨RX4, "carryOut", "(II)V"⟩
abbrev cX4_isOf : ByteArray := prog_6_method_12_code
def yX4_isOf : MethodName := ⟨RX4, "isOf", "(II)Z"⟩
abbrev cX4_allOf : ByteArray := prog_6_method_13_code
def yX4_allOf : MethodName := ⟨RX4, "allOf", "(I)I"⟩
abbrev cX4_trait : ByteArray := prog_6_method_14_code
def yX4_trait : MethodName := ⟨RX4, "trait", "(II)I"⟩
abbrev cX4_markOf : ByteArray := prog_6_method_15_code
def yX4_markOf : MethodName := ⟨RX4, "markOf", "(II)I"⟩
abbrev cX4_turns : ByteArray := prog_6_method_16_code
def yX4_turns : MethodName := ⟨RX4, "turns", "(III)I"⟩
abbrev cX4_woundBy : ByteArray := prog_6_method_17_code
def yX4_woundBy : MethodName := ⟨RX4, "woundBy", "(III)I"⟩
abbrev cX4_woundBySet : ByteArray := prog_6_method_18_code
def yX4_woundBySet : MethodName := ⟨RX4, "woundBySet", "(I)I"⟩
abbrev cX4_woundNext : ByteArray := prog_6_method_19_code
def yX4_woundNext : MethodName := ⟨RX4, "woundNext", "(I)I"⟩
abbrev cX4_strikesNext : ByteArray := prog_6_method_20_code
def yX4_strikesNext : MethodName := ⟨RX4, "strikesNext", "(I)I"⟩
abbrev cX4_clockAfter : ByteArray := prog_6_method_21_code
def yX4_clockAfter : MethodName := ⟨RX4, "clockAfter", "(I)I"⟩
abbrev cX4_hoursLeft : ByteArray := prog_6_method_22_code
def yX4_hoursLeft : MethodName := ⟨RX4, "hoursLeft", "(I)I"⟩
abbrev cX4_weight : ByteArray := prog_6_method_23_code
def yX4_weight : MethodName := ⟨RX4, "weight", "(II)J"⟩
abbrev cX4_weights : ByteArray := prog_6_method_24_code
def yX4_weights : MethodName := ⟨RX4, "weights", "()J"⟩
def RX5 : String := "StrangersWind"
def TX5 : u_T := fun k => match k with
  | 0 => ("StrangersWind", "rows", "[[I", true)
  | 1 => ("StrangersWind", "rowSizes", "[I", true)
  | 2 => ("StrangersWind", "texts", "[[B", true)
  | 3 => ("StrangersWind", "textSizes", "[I", true)
  | 4 => ("StrangersWind", "here", "LStrangersWind$Town;", true)
  | 5 => ("StrangersWind", "draft", "LStrangersWind$Town;", true)
  | 6 => ("StrangersWind", "keptTowns", "[LStrangersWind$Town;", true)
  | 7 => ("StrangersWind", "isKept", "[Z", true)
  | 8 => ("StrangersWind", "reader", "LStrangersWind$Reader;", true)
  | 9 => ("StrangersWind", "lettings", "LStrangersWind$Lettings;", true)
  | 10 => ("StrangersWind", "orders", "LStrangersWind$Orders;", true)
  | 11 => ("StrangersWind", "beard", "LStrangersWind$Beard;", true)
  | 12 => ("StrangersWind", "findingCounts", "[I", true)
  | 13 => ("StrangersWind", "latestFinding", "I", false)
  | 14 => ("StrangersWind", "toldAside", "I", false)
  | 15 => ("StrangersWind", "toldUpper", "J", false)
  | _ => ("StrangersWind", "toldLower", "J", false)
def tyX5 : Nat → FieldType := fun k => match k with
  | 0 => .array (.array .int)
  | 1 => .array .int
  | 2 => .array (.array .byte)
  | 3 => .array .int
  | 4 => .object "StrangersWind$Town"
  | 5 => .object "StrangersWind$Town"
  | 6 => .array (.object "StrangersWind$Town")
  | 7 => .array .boolean
  | 8 => .object "StrangersWind$Reader"
  | 9 => .object "StrangersWind$Lettings"
  | 10 => .object "StrangersWind$Orders"
  | 11 => .object "StrangersWind$Beard"
  | 12 => .array .int
  | 13 => .int
  | 14 => .int
  | 15 => .long
  | _ => .long
abbrev wsX50 : List Cond := u_ws RX5 TX5 17
theorem nmX5 : ∀ a, a < 17 → ∀ b, b < 17 → a ≠ b → (TX5 a).2.1 ≠ (TX5 b).2.1 := by decide +kernel
theorem tyX5_ok : ∀ k, k < 17 → parseFieldDescriptor (TX5 k).2.2.1 = some (tyX5 k) := by decide +kernel
abbrev cX5_init : ByteArray := prog_1_method_1_code
def yX5_init : MethodName := ⟨RX5, "<init>", "()V"⟩
abbrev cX5_row : ByteArray := prog_1_method_2_code
def yX5_row : MethodName := ⟨RX5, "row", "(II)I"⟩
abbrev cX5_lay : ByteArray := prog_1_method_3_code
def yX5_lay : MethodName := ⟨RX5, "lay", "(III)I"⟩
abbrev cX5_at : ByteArray := prog_1_method_4_code
def yX5_at : MethodName := ⟨RX5, "at", "(II)I"⟩
abbrev cX5_tear : ByteArray := prog_1_method_5_code
def yX5_tear : MethodName := ⟨RX5, "tear", "(I)I"⟩
abbrev cX5_copy : ByteArray := prog_1_method_6_code
def yX5_copy : MethodName := ⟨RX5, "copy", "(IIIII)I"⟩
abbrev cX5_mean : ByteArray := prog_1_method_7_code
def yX5_mean : MethodName := ⟨RX5, "mean", "(I)I"⟩
abbrev cX5_text : ByteArray := prog_1_method_8_code
def yX5_text : MethodName := ⟨RX5, "text", "(II)I"⟩
abbrev cX5_put : ByteArray := prog_1_method_9_code
def yX5_put : MethodName := ⟨RX5, "put", "(III)I"⟩
abbrev cX5_fault : ByteArray := prog_1_method_10_code
def yX5_fault : MethodName := ⟨RX5, "fault", "(I)I"⟩
abbrev cX5_town : ByteArray := prog_1_method_11_code
def yX5_town : MethodName := ⟨RX5, "town", "(I)I"⟩
abbrev cX5_stranger : ByteArray := prog_1_method_12_code
def yX5_stranger : MethodName := ⟨RX5, "stranger", "(II)I"⟩
abbrev cX5_mark : ByteArray := prog_1_method_13_code
def yX5_mark : MethodName := ⟨RX5, "mark", "(II)I"⟩
abbrev cX5_gate : ByteArray := prog_1_method_14_code
def yX5_gate : MethodName := ⟨RX5, "gate", "(I)I"⟩
abbrev cX5_let : ByteArray := prog_1_method_15_code
def yX5_let : MethodName := ⟨RX5, "let", "(I)I"⟩
abbrev cX5_leave : ByteArray := prog_1_method_16_code
def yX5_leave : MethodName := ⟨RX5, "leave", "(I)I"⟩
abbrev cX5_hour : ByteArray := prog_1_method_17_code
def yX5_hour : MethodName := ⟨RX5, "hour", "()I"⟩
abbrev cX5_frost : ByteArray := prog_1_method_18_code
def yX5_frost : MethodName := ⟨RX5, "frost", "(I)I"⟩
abbrev cX5_undo : ByteArray := prog_1_method_19_code
def yX5_undo : MethodName := ⟨RX5, "undo", "(I)I"⟩
abbrev cX5_keep : ByteArray := prog_1_method_20_code
def yX5_keep : MethodName := ⟨RX5, "keep", "(I)I"⟩
abbrev cX5_on : ByteArray := prog_1_method_21_code
def yX5_on : MethodName := ⟨RX5, "on", "(I)I"⟩
abbrev cX5_lasts : ByteArray := prog_1_method_22_code
def yX5_lasts : MethodName := ⟨RX5, "lasts", "()I"⟩
abbrev cX5_wound : ByteArray := prog_1_method_23_code
def yX5_wound : MethodName := ⟨RX5, "wound", "(I)I"⟩
abbrev cX5_most : ByteArray := prog_1_method_24_code
def yX5_most : MethodName := ⟨RX5, "most", "()I"⟩
abbrev cX5_order : ByteArray := prog_1_method_25_code
def yX5_order : MethodName := ⟨RX5, "order", "(I)I"⟩
abbrev cX5_ways : ByteArray := prog_1_method_26_code
def yX5_ways : MethodName := ⟨RX5, "ways", "(II)I"⟩
abbrev cX5_bread : ByteArray := prog_1_method_27_code
def yX5_bread : MethodName := ⟨RX5, "bread", "(III)I"⟩
abbrev cX5_goes : ByteArray := prog_1_method_28_code
def yX5_goes : MethodName := ⟨RX5, "goes", "(I)I"⟩
abbrev cX5_behind : ByteArray := prog_1_method_29_code
def yX5_behind : MethodName := ⟨RX5, "behind", "(I)I"⟩
abbrev cX5_fits : ByteArray := prog_1_method_30_code
def yX5_fits : MethodName := ⟨RX5, "fits", "(I)I"⟩
abbrev cX5_sure : ByteArray := prog_1_method_31_code
def yX5_sure : MethodName := ⟨RX5, "sure", "(I)I"⟩
abbrev cX5_ask : ByteArray := prog_1_method_32_code
def yX5_ask : MethodName := ⟨RX5, "ask", "(I)I"⟩
abbrev cX5_came : ByteArray := prog_1_method_33_code
def yX5_came : MethodName := ⟨RX5, "came", "(I)I"⟩
abbrev cX5_duel : ByteArray := prog_1_method_34_code
def yX5_duel : MethodName := ⟨RX5, "duel", "(I)I"⟩
abbrev cX5_shut : ByteArray := prog_1_method_35_code
def yX5_shut : MethodName := ⟨RX5, "shut", "(I)I"⟩
abbrev cX5_meets : ByteArray := prog_1_method_36_code
def yX5_meets : MethodName := ⟨RX5, "meets", "(I)I"⟩
abbrev cX5_check : ByteArray := prog_1_method_37_code
def yX5_check : MethodName := ⟨RX5, "check", "(I)I"⟩
abbrev cX5_odds : ByteArray := prog_1_method_38_code
def yX5_odds : MethodName := ⟨RX5, "odds", "(II)I"⟩
abbrev cX5_mid : ByteArray := prog_1_method_39_code
def yX5_mid : MethodName := ⟨RX5, "mid", "(I)I"⟩
abbrev cX5_lots : ByteArray := prog_1_method_40_code
def yX5_lots : MethodName := ⟨RX5, "lots", "(II)I"⟩
abbrev cX5_asked : ByteArray := prog_1_method_41_code
def yX5_asked : MethodName := ⟨RX5, "asked", "()I"⟩
abbrev cX5_upper : ByteArray := prog_1_method_42_code
def yX5_upper : MethodName := ⟨RX5, "upper", "()J"⟩
abbrev cX5_lower : ByteArray := prog_1_method_43_code
def yX5_lower : MethodName := ⟨RX5, "lower", "()J"⟩
abbrev cX5_count : ByteArray := prog_1_method_44_code
def yX5_count : MethodName := ⟨RX5, "count", "(I)I"⟩
abbrev cX5_finding : ByteArray := prog_1_method_45_code
def yX5_finding : MethodName := ⟨RX5, "finding", "()I"⟩
abbrev cX5_findings : ByteArray := prog_1_method_46_code
def yX5_findings : MethodName := ⟨RX5, "findings", "(I)I"⟩
abbrev cX5_digest : ByteArray := prog_1_method_47_code
def yX5_digest : MethodName := ⟨RX5, "digest", "()J"⟩
abbrev cX5_isRow : ByteArray := prog_1_method_48_code
def yX5_isRow : MethodName := ⟨RX5, "isRow", "(I)Z"⟩
abbrev cX5_isText : ByteArray := prog_1_method_49_code
def yX5_isText : MethodName := ⟨RX5, "isText", "(I)Z"⟩
abbrev cX5_isKeep : ByteArray := prog_1_method_50_code
def yX5_isKeep : MethodName := ⟨RX5, "isKeep", "(I)Z"⟩
abbrev cX5_isLettingSize : ByteArray := prog_1_method_51_code
def yX5_isLettingSize : MethodName := ⟨RX5, "isLettingSize", "(I)Z"⟩
abbrev cX5_isDial : ByteArray := prog_1_method_52_code
def yX5_isDial : MethodName := ⟨RX5, "isDial", "(I)Z"⟩
abbrev cX5_isStrike : ByteArray := prog_1_method_53_code
def yX5_isStrike : MethodName := ⟨RX5, "isStrike", "(I)Z"⟩
abbrev cX5_isTwelfth : ByteArray := prog_1_method_54_code
def yX5_isTwelfth : MethodName := ⟨RX5, "isTwelfth", "(I)Z"⟩
abbrev cX5_isSpan : ByteArray := prog_1_method_55_code
def yX5_isSpan : MethodName := ⟨RX5, "isSpan", "(III)Z"⟩
abbrev cX5_found : ByteArray := prog_1_method_56_code
def yX5_found : MethodName := ⟨RX5, "found", "(I)I"⟩
abbrev cX5_refusedPlace : ByteArray := prog_1_method_57_code
def yX5_refusedPlace : MethodName := ⟨RX5, "refusedPlace", "(II)I"⟩
abbrev cX5_refusedGuests : ByteArray := prog_1_method_58_code
def yX5_refusedGuests : MethodName := ⟨RX5, "refusedGuests", "(IIZ)I"⟩
abbrev cX5_canAllCome : ByteArray := prog_1_method_59_code
def yX5_canAllCome : MethodName := ⟨RX5, "canAllCome", "(IZ)Z"⟩
abbrev cX5_refusedBeard : ByteArray := prog_1_method_60_code
def yX5_refusedBeard : MethodName := ⟨RX5, "refusedBeard", "(I)I"⟩
abbrev cX5_fillRow : ByteArray := prog_1_method_61_code
def yX5_fillRow : MethodName := ⟨RX5, "fillRow", "(I[II)V"⟩
abbrev cX5_tell : ByteArray := prog_1_method_62_code
def yX5_tell : MethodName := ⟨RX5, "tell", "(JJ)V"⟩
abbrev cX5_commonDivisor : ByteArray := prog_1_method_63_code
def yX5_commonDivisor : MethodName := ⟨RX5, "commonDivisor", "(JJ)J"⟩
abbrev cX5_thoseThere : ByteArray := prog_1_method_64_code
def yX5_thoseThere : MethodName := ⟨RX5, "thoseThere", "([I)I"⟩
abbrev cX5_thoseKept : ByteArray := prog_1_method_65_code
def yX5_thoseKept : MethodName := ⟨RX5, "thoseKept", "()I"⟩
abbrev cX5_firstFalsePair : ByteArray := prog_1_method_66_code
def yX5_firstFalsePair : MethodName := ⟨RX5, "firstFalsePair", "([II)I"⟩
abbrev cX5_noteLot : ByteArray := prog_1_method_67_code
def yX5_noteLot : MethodName := ⟨RX5, "noteLot", "(J)V"⟩
abbrev cX5_duelFrom : ByteArray := prog_1_method_68_code
def yX5_duelFrom : MethodName := ⟨RX5, "duelFrom", "(LStrangersWind$Town;IIII)I"⟩
def RX6 : String := "StrangersWindModel"
def TX6 : u_T := fun k => match k with
  | 0 => ("StrangersWindModel", "row", "[I", true)
  | 1 => ("StrangersWindModel", "strangers", "I", false)
  | 2 => ("StrangersWindModel", "kinds", "[I", true)
  | 3 => ("StrangersWindModel", "strengths", "[I", true)
  | 4 => ("StrangersWindModel", "breads", "[I", true)
  | 5 => ("StrangersWindModel", "sizes", "[I", true)
  | 6 => ("StrangersWindModel", "items", "[I", true)
  | 7 => ("StrangersWindModel", "lengths", "[I", true)
  | 8 => ("StrangersWindModel", "bytes", "[I", true)
  | 9 => ("StrangersWindModel", "asked", "I", false)
  | 10 => ("StrangersWindModel", "upper", "J", false)
  | 11 => ("StrangersWindModel", "lower", "J", false)
  | 12 => ("StrangersWindModel", "finding", "I", false)
  | 13 => ("StrangersWindModel", "findings", "[I", true)
  | 14 => ("StrangersWindModel", "from", "I", false)
  | 15 => ("StrangersWindModel", "place", "I", false)
  | 16 => ("StrangersWindModel", "end", "I", false)
  | 17 => ("StrangersWindModel", "readWound", "I", false)
  | 18 => ("StrangersWindModel", "readFrost", "I", false)
  | 19 => ("StrangersWindModel", "readStrangers", "[I", true)
  | 20 => ("StrangersWindModel", "readMany", "I", false)
  | 21 => ("StrangersWindModel", "struck", "I", false)
  | 22 => ("StrangersWindModel", "orders", "[I", true)
  | 23 => ("StrangersWindModel", "paid", "I", false)
  | 24 => ("StrangersWindModel", "cameBy", "I", false)
  | 25 => ("StrangersWindModel", "wentOn", "I", false)
  | 26 => ("StrangersWindModel", "cheapest", "I", false)
  | 27 => ("StrangersWindModel", "fit", "[Z", true)
  | _ => ("StrangersWindModel", "worths", "[I", true)
def tyX6 : Nat → FieldType := fun k => match k with
  | 0 => .array .int
  | 1 => .int
  | 2 => .array .int
  | 3 => .array .int
  | 4 => .array .int
  | 5 => .array .int
  | 6 => .array .int
  | 7 => .array .int
  | 8 => .array .int
  | 9 => .int
  | 10 => .long
  | 11 => .long
  | 12 => .int
  | 13 => .array .int
  | 14 => .int
  | 15 => .int
  | 16 => .int
  | 17 => .int
  | 18 => .int
  | 19 => .array .int
  | 20 => .int
  | 21 => .int
  | 22 => .array .int
  | 23 => .int
  | 24 => .int
  | 25 => .int
  | 26 => .int
  | 27 => .array .boolean
  | _ => .array .int
abbrev wsX60 : List Cond := u_ws RX6 TX6 29
theorem nmX6 : ∀ a, a < 29 → ∀ b, b < 29 → a ≠ b → (TX6 a).2.1 ≠ (TX6 b).2.1 := by decide +kernel
theorem tyX6_ok : ∀ k, k < 29 → parseFieldDescriptor (TX6 k).2.2.1 = some (tyX6 k) := by decide +kernel
abbrev cX6_init : ByteArray := prog_8_method_1_code
def yX6_init : MethodName := ⟨RX6, "<init>", "()V"⟩
abbrev cX6_bits : ByteArray := prog_8_method_2_code
def yX6_bits : MethodName := ⟨RX6, "bits", "(I)I"⟩
abbrev cX6_in : ByteArray := prog_8_method_3_code
def yX6_in : MethodName := ⟨RX6, "in", "(JJJ)Z"⟩
abbrev cX6_has : ByteArray := prog_8_method_4_code
def yX6_has : MethodName := ⟨RX6, "has", "(II)Z"⟩
abbrev cX6_find : ByteArray := prog_8_method_5_code
def yX6_find : MethodName := ⟨RX6, "find", "(I)I"⟩
abbrev cX6_tell : ByteArray := prog_8_method_6_code
def yX6_tell : MethodName := ⟨RX6, "tell", "(I)I"⟩
abbrev cX6_isRow : ByteArray := prog_8_method_7_code
def yX6_isRow : MethodName := ⟨RX6, "isRow", "(I)Z"⟩
abbrev cX6_isText : ByteArray := prog_8_method_8_code
def yX6_isText : MethodName := ⟨RX6, "isText", "(I)Z"⟩
abbrev cX6_row : ByteArray := prog_8_method_9_code
def yX6_row : MethodName := ⟨RX6, "row", "(II)I"⟩
abbrev cX6_makeRow : ByteArray := prog_8_method_10_code
def yX6_makeRow : MethodName := ⟨RX6, "makeRow", "(II)V"⟩
abbrev cX6_refused : ByteArray := prog_8_method_11_code
def yX6_refused : MethodName := ⟨RX6, "refused", "(II)I"⟩
abbrev cX6_lay : ByteArray := prog_8_method_12_code
def yX6_lay : MethodName := ⟨RX6, "lay", "(III)I"⟩
abbrev cX6_at : ByteArray := prog_8_method_13_code
def yX6_at : MethodName := ⟨RX6, "at", "(II)I"⟩
abbrev cX6_tear : ByteArray := prog_8_method_14_code
def yX6_tear : MethodName := ⟨RX6, "tear", "(I)I"⟩
abbrev cX6_isSpan : ByteArray := prog_8_method_15_code
def yX6_isSpan : MethodName := ⟨RX6, "isSpan", "(III)Z"⟩
abbrev cX6_copy : ByteArray := prog_8_method_16_code
def yX6_copy : MethodName := ⟨RX6, "copy", "(IIIII)I"⟩
abbrev cX6_mean : ByteArray := prog_8_method_17_code
def yX6_mean : MethodName := ⟨RX6, "mean", "(I)I"⟩
abbrev cX6_text : ByteArray := prog_8_method_18_code
def yX6_text : MethodName := ⟨RX6, "text", "(II)I"⟩
abbrev cX6_put : ByteArray := prog_8_method_19_code
def yX6_put : MethodName := ⟨RX6, "put", "(III)I"⟩
abbrev cX6_here : ByteArray := prog_8_method_20_code
def yX6_here : MethodName := ⟨RX6, "here", "()I"⟩
abbrev cX6_skip : ByteArray := prog_8_method_21_code
def yX6_skip : MethodName := ⟨RX6, "skip", "()V"⟩
abbrev cX6_figure : ByteArray := prog_8_method_22_code
def yX6_figure : MethodName := ⟨RX6, "figure", "(II)I"⟩
abbrev cX6_readsSpring : ByteArray := prog_8_method_23_code
def yX6_readsSpring : MethodName := ⟨RX6, "readsSpring", "()Z"⟩
abbrev cX6_kindOfLetter : ByteArray := prog_8_method_24_code
def yX6_kindOfLetter : MethodName := ⟨RX6, "kindOfLetter", "(I)I"⟩
abbrev cX6_readsStranger : ByteArray := prog_8_method_25_code
def yX6_readsStranger : MethodName := ⟨RX6, "readsStranger", "()Z"⟩
abbrev cX6_faultOf : ByteArray := prog_8_method_26_code
def yX6_faultOf : MethodName := ⟨RX6, "faultOf", "(I)I"⟩
abbrev cX6_fault : ByteArray := prog_8_method_27_code
def yX6_fault : MethodName := ⟨RX6, "fault", "(I)I"⟩
abbrev cX6_town : ByteArray := prog_8_method_28_code
def yX6_town : MethodName := ⟨RX6, "town", "(I)I"⟩
abbrev cX6_isStranger : ByteArray := prog_8_method_29_code
def yX6_isStranger : MethodName := ⟨RX6, "isStranger", "(I)Z"⟩
abbrev cX6_isIn : ByteArray := prog_8_method_30_code
def yX6_isIn : MethodName := ⟨RX6, "isIn", "(II)Z"⟩
abbrev cX6_pilgrims : ByteArray := prog_8_method_31_code
def yX6_pilgrims : MethodName := ⟨RX6, "pilgrims", "(I)I"⟩
abbrev cX6_turnsOf : ByteArray := prog_8_method_32_code
def yX6_turnsOf : MethodName := ⟨RX6, "turnsOf", "(II)I"⟩
abbrev cX6_comesIn : ByteArray := prog_8_method_33_code
def yX6_comesIn : MethodName := ⟨RX6, "comesIn", "(II)V"⟩
abbrev cX6_pass : ByteArray := prog_8_method_34_code
def yX6_pass : MethodName := ⟨RX6, "pass", "(I)I"⟩
abbrev cX6_layTried : ByteArray := prog_8_method_35_code
def yX6_layTried : MethodName := ⟨RX6, "layTried", "()V"⟩
abbrev cX6_comeTried : ByteArray := prog_8_method_36_code
def yX6_comeTried : MethodName := ⟨RX6, "comeTried", "(I)V"⟩
abbrev cX6_out : ByteArray := prog_8_method_37_code
def yX6_out : MethodName := ⟨RX6, "out", "()I"⟩
abbrev cX6_toldOf : ByteArray := prog_8_method_38_code
def yX6_toldOf : MethodName := ⟨RX6, "toldOf", "(II)I"⟩
abbrev cX6_stranger : ByteArray := prog_8_method_39_code
def yX6_stranger : MethodName := ⟨RX6, "stranger", "(II)I"⟩
abbrev cX6_isOf : ByteArray := prog_8_method_40_code
def yX6_isOf : MethodName := ⟨RX6, "isOf", "(II)Z"⟩
abbrev cX6_mark : ByteArray := prog_8_method_41_code
def yX6_mark : MethodName := ⟨RX6, "mark", "(II)I"⟩
abbrev cX6_gate : ByteArray := prog_8_method_42_code
def yX6_gate : MethodName := ⟨RX6, "gate", "(I)I"⟩
abbrev cX6_keepPast : ByteArray := prog_8_method_43_code
def yX6_keepPast : MethodName := ⟨RX6, "keepPast", "()V"⟩
abbrev cX6_doLet : ByteArray := prog_8_method_44_code
def yX6_doLet : MethodName := ⟨RX6, "doLet", "(I)I"⟩
abbrev cX6_let : ByteArray := prog_8_method_45_code
def yX6_let : MethodName := ⟨RX6, "let", "(I)I"⟩
abbrev cX6_doLeave : ByteArray := prog_8_method_46_code
def yX6_doLeave : MethodName := ⟨RX6, "doLeave", "(I)I"⟩
abbrev cX6_leave : ByteArray := prog_8_method_47_code
def yX6_leave : MethodName := ⟨RX6, "leave", "(I)I"⟩
abbrev cX6_hour : ByteArray := prog_8_method_48_code
def yX6_hour : MethodName := ⟨RX6, "hour", "()I"⟩
abbrev cX6_frost : ByteArray := prog_8_method_49_code
def yX6_frost : MethodName := ⟨RX6, "frost", "(I)I"⟩
abbrev cX6_undo : ByteArray := prog_8_method_50_code
def yX6_undo : MethodName := ⟨RX6, "undo", "(I)I"⟩
abbrev cX6_copyTown : ByteArray := prog_8_method_51_code
def yX6_copyTown : MethodName := ⟨RX6, "copyTown", "(II)V"⟩
abbrev cX6_keep : ByteArray := prog_8_method_52_code
def yX6_keep : MethodName := ⟨RX6, "keep", "(I)I"⟩
abbrev cX6_on : ByteArray := prog_8_method_53_code
def yX6_on : MethodName := ⟨RX6, "on", "(I)I"⟩
abbrev cX6_lastsTried : ByteArray := prog_8_method_54_code
def yX6_lastsTried : MethodName := ⟨RX6, "lastsTried", "()I"⟩
abbrev cX6_lasts : ByteArray := prog_8_method_55_code
def yX6_lasts : MethodName := ⟨RX6, "lasts", "()I"⟩
abbrev cX6_noRow : ByteArray := prog_8_method_56_code
def yX6_noRow : MethodName := ⟨RX6, "noRow", "(IIZ)I"⟩
abbrev cX6_wound : ByteArray := prog_8_method_57_code
def yX6_wound : MethodName := ⟨RX6, "wound", "(I)I"⟩
abbrev cX6_woundBy : ByteArray := prog_8_method_58_code
def yX6_woundBy : MethodName := ⟨RX6, "woundBy", "(I)I"⟩
abbrev cX6_isOut : ByteArray := prog_8_method_59_code
def yX6_isOut : MethodName := ⟨RX6, "isOut", "(I)Z"⟩
abbrev cX6_most : ByteArray := prog_8_method_60_code
def yX6_most : MethodName := ⟨RX6, "most", "()I"⟩
abbrev cX6_nextOrder : ByteArray := prog_8_method_61_code
def yX6_nextOrder : MethodName := ⟨RX6, "nextOrder", "(I)Z"⟩
abbrev cX6_order : ByteArray := prog_8_method_62_code
def yX6_order : MethodName := ⟨RX6, "order", "(I)I"⟩
abbrev cX6_power : ByteArray := prog_8_method_63_code
def yX6_power : MethodName := ⟨RX6, "power", "(I)I"⟩
abbrev cX6_whoOf : ByteArray := prog_8_method_64_code
def yX6_whoOf : MethodName := ⟨RX6, "whoOf", "(III)I"⟩
abbrev cX6_isLetting : ByteArray := prog_8_method_65_code
def yX6_isLetting : MethodName := ⟨RX6, "isLetting", "(II)Z"⟩
abbrev cX6_leastBread : ByteArray := prog_8_method_66_code
def yX6_leastBread : MethodName := ⟨RX6, "leastBread", "(II)I"⟩
abbrev cX6_ways : ByteArray := prog_8_method_67_code
def yX6_ways : MethodName := ⟨RX6, "ways", "(II)I"⟩
abbrev cX6_bread : ByteArray := prog_8_method_68_code
def yX6_bread : MethodName := ⟨RX6, "bread", "(III)I"⟩
abbrev cX6_goes : ByteArray := prog_8_method_69_code
def yX6_goes : MethodName := ⟨RX6, "goes", "(I)I"⟩
abbrev cX6_behind : ByteArray := prog_8_method_70_code
def yX6_behind : MethodName := ⟨RX6, "behind", "(I)I"⟩
abbrev cX6_layFits : ByteArray := prog_8_method_71_code
def yX6_layFits : MethodName := ⟨RX6, "layFits", "(I)I"⟩
abbrev cX6_fits : ByteArray := prog_8_method_72_code
def yX6_fits : MethodName := ⟨RX6, "fits", "(I)I"⟩
abbrev cX6_noFits : ByteArray := prog_8_method_73_code
def yX6_noFits : MethodName := ⟨RX6, "noFits", "(I)I"⟩
abbrev cX6_sure : ByteArray := prog_8_method_74_code
def yX6_sure : MethodName := ⟨RX6, "sure", "(I)I"⟩
abbrev cX6_greater : ByteArray := prog_8_method_75_code
def yX6_greater : MethodName := ⟨RX6, "greater", "(I)I"⟩
abbrev cX6_ask : ByteArray := prog_8_method_76_code
def yX6_ask : MethodName := ⟨RX6, "ask", "(I)I"⟩
abbrev cX6_came : ByteArray := prog_8_method_77_code
def yX6_came : MethodName := ⟨RX6, "came", "(I)I"⟩
abbrev cX6_worthOf : ByteArray := prog_8_method_78_code
def yX6_worthOf : MethodName := ⟨RX6, "worthOf", "(II)I"⟩
abbrev cX6_duel : ByteArray := prog_8_method_79_code
def yX6_duel : MethodName := ⟨RX6, "duel", "(I)I"⟩
abbrev cX6_shut : ByteArray := prog_8_method_80_code
def yX6_shut : MethodName := ⟨RX6, "shut", "(I)I"⟩
abbrev cX6_meets : ByteArray := prog_8_method_81_code
def yX6_meets : MethodName := ⟨RX6, "meets", "(I)I"⟩
abbrev cX6_check : ByteArray := prog_8_method_82_code
def yX6_check : MethodName := ⟨RX6, "check", "(I)I"⟩
abbrev cX6_tellParts : ByteArray := prog_8_method_83_code
def yX6_tellParts : MethodName := ⟨RX6, "tellParts", "(JJ)I"⟩
abbrev cX6_waysOf : ByteArray := prog_8_method_84_code
def yX6_waysOf : MethodName := ⟨RX6, "waysOf", "(II)J"⟩
abbrev cX6_odds : ByteArray := prog_8_method_85_code
def yX6_odds : MethodName := ⟨RX6, "odds", "(II)I"⟩
abbrev cX6_mid : ByteArray := prog_8_method_86_code
def yX6_mid : MethodName := ⟨RX6, "mid", "(I)I"⟩
abbrev cX6_lots : ByteArray := prog_8_method_87_code
def yX6_lots : MethodName := ⟨RX6, "lots", "(II)I"⟩
abbrev cX6_asked : ByteArray := prog_8_method_88_code
def yX6_asked : MethodName := ⟨RX6, "asked", "()I"⟩
abbrev cX6_upper : ByteArray := prog_8_method_89_code
def yX6_upper : MethodName := ⟨RX6, "upper", "()J"⟩
abbrev cX6_lower : ByteArray := prog_8_method_90_code
def yX6_lower : MethodName := ⟨RX6, "lower", "()J"⟩
abbrev cX6_strongs : ByteArray := prog_8_method_91_code
def yX6_strongs : MethodName := ⟨RX6, "strongs", "()I"⟩
abbrev cX6_thereOf : ByteArray := prog_8_method_92_code
def yX6_thereOf : MethodName := ⟨RX6, "thereOf", "(I)I"⟩
abbrev cX6_countOf : ByteArray := prog_8_method_93_code
def yX6_countOf : MethodName := ⟨RX6, "countOf", "(I)I"⟩
abbrev cX6_count : ByteArray := prog_8_method_94_code
def yX6_count : MethodName := ⟨RX6, "count", "(I)I"⟩
abbrev cX6_finding : ByteArray := prog_8_method_95_code
def yX6_finding : MethodName := ⟨RX6, "finding", "()I"⟩
abbrev cX6_findings : ByteArray := prog_8_method_96_code
def yX6_findings : MethodName := ⟨RX6, "findings", "(I)I"⟩
abbrev cX6_digest : ByteArray := prog_8_method_97_code
def yX6_digest : MethodName := ⟨RX6, "digest", "()J"⟩
def RJ6 : String := "java/lang/Integer"
def TJ6 : u_T := fun k => match k with
  | _ => ("", "", "", false)
def tyJ6 : Nat → FieldType := fun k => match k with
  | _ => .int
abbrev wsJ60 : List Cond := u_ws RJ6 TJ6 0
theorem nmJ6 : ∀ a, a < 0 → ∀ b, b < 0 → a ≠ b → (TJ6 a).2.1 ≠ (TJ6 b).2.1 := by decide +kernel
theorem tyJ6_ok : ∀ k, k < 0 → parseFieldDescriptor (TJ6 k).2.2.1 = some (tyJ6 k) := by decide +kernel
abbrev cJ6_bitCount_0f7a4 : ByteArray := prog_9_method_49_code
def yJ6_bitCount_0f7a4 : MethodName := ⟨RJ6, "bitCount", "(I)I"⟩
def RJ9 : String := "java/lang/Math"
def TJ9 : u_T := fun k => match k with
  | _ => ("", "", "", false)
def tyJ9 : Nat → FieldType := fun k => match k with
  | _ => .int
abbrev wsJ90 : List Cond := u_ws RJ9 TJ9 0
theorem nmJ9 : ∀ a, a < 0 → ∀ b, b < 0 → a ≠ b → (TJ9 a).2.1 ≠ (TJ9 b).2.1 := by decide +kernel
theorem tyJ9_ok : ∀ k, k < 0 → parseFieldDescriptor (TJ9 k).2.2.1 = some (tyJ9 k) := by decide +kernel
abbrev cJ9_max_7cf53 : ByteArray := prog_10_method_65_code
def yJ9_max_7cf53 : MethodName := ⟨RJ9, "max", "(II)I"⟩
abbrev cJ9_min_7cf53 : ByteArray := prog_10_method_69_code
def yJ9_min_7cf53 : MethodName := ⟨RJ9, "min", "(II)I"⟩
def RJ10 : String := "java/lang/System"
def TJ10 : u_T := fun k => match k with
  | _ => ("", "", "", false)
def tyJ10 : Nat → FieldType := fun k => match k with
  | _ => .int
abbrev wsJ100 : List Cond := u_ws RJ10 TJ10 0
theorem nmJ10 : ∀ a, a < 0 → ∀ b, b < 0 → a ≠ b → (TJ10 a).2.1 ≠ (TJ10 b).2.1 := by decide +kernel
theorem tyJ10_ok : ∀ k, k < 0 → parseFieldDescriptor (TJ10 k).2.2.1 = some (tyJ10 k) := by decide +kernel
def RJ7 : String := "java/util/Arrays"
def TJ7 : u_T := fun k => match k with
  | _ => ("", "", "", false)
def tyJ7 : Nat → FieldType := fun k => match k with
  | _ => .int
abbrev wsJ70 : List Cond := u_ws RJ7 TJ7 0
theorem nmJ7 : ∀ a, a < 0 → ∀ b, b < 0 → a ≠ b → (TJ7 a).2.1 ≠ (TJ7 b).2.1 := by decide +kernel
theorem tyJ7_ok : ∀ k, k < 0 → parseFieldDescriptor (TJ7 k).2.2.1 = some (tyJ7 k) := by decide +kernel
abbrev cJ7_fill_53178 : ByteArray := prog_12_method_103_code
def yJ7_fill_53178 : MethodName := ⟨RJ7, "fill", "([II)V"⟩
abbrev cJ7_fill_031fb : ByteArray := prog_12_method_109_code
def yJ7_fill_031fb : MethodName := ⟨RJ7, "fill", "([BB)V"⟩
abbrev cJ7_fill_49daa : ByteArray := prog_12_method_111_code
def yJ7_fill_49daa : MethodName := ⟨RJ7, "fill", "([ZZ)V"⟩
def RL : String := "StrangersWindLaw"
abbrev cL_law : ByteArray := code
def yL_law : MethodName := ⟨RL, "law", "([I)Z"⟩
abbrev vwCl : List vw_C := [(RX0, TX0, 8), (RX1, TX1, 9), (RX2, TX2, 5), (RX3, TX3, 3), (RX4, TX4, 15), (RX5, TX5, 17), (RX6, TX6, 29)]
end
section
/-! the world: 77 cells by number (their addresses by g.1), what they hold by one state -/
abbrev sw_St : Type := (Nat → Nat → Int32) × (Nat → Nat → Int64) × Nat
abbrev sw_G : Type := (Nat → Nat) × va_G × (Nat → ClassId)
/-- each cell's kind (0 .. 6 a class, 7 byte[], 8 int[], 9 boolean[], 10 Town[], 11 byte[][], 12 int[][]) and its length -/
def sw_lay : List (Nat × Nat) := [(5, 0), (12, 6), (8, 40), (8, 40), (8, 40), (8, 40), (8, 40), (8, 40), (8, 6), (11, 4), (7, 60), (7, 60), (7, 60), (7, 60), (8, 4),
  (4, 0), (8, 6), (8, 6), (8, 6), (8, 6), (8, 40), (8, 40),
  (4, 0), (8, 6), (8, 6), (8, 6), (8, 6), (8, 40), (8, 40),
  (10, 3),
  (4, 0), (8, 6), (8, 6), (8, 6), (8, 6), (8, 40), (8, 40),
  (4, 0), (8, 6), (8, 6), (8, 6), (8, 6), (8, 40), (8, 40),
  (4, 0), (8, 6), (8, 6), (8, 6), (8, 6), (8, 40), (8, 40),
  (9, 3), (3, 0), (7, 0), (1, 0), (8, 5), (8, 5), (2, 0), (8, 6), (8, 6), (0, 0), (8, 6), (8, 6),
  (6, 0), (8, 835), (8, 6), (8, 6), (8, 6), (8, 6), (8, 240), (8, 4), (8, 240), (8, 6), (8, 24), (8, 6), (9, 64), (8, 2401)]
def sw_kd (i : Nat) : Nat := (sw_lay.getD i (99, 0)).1
def sw_ln (i : Nat) : Nat := (sw_lay.getD i (99, 0)).2
/-- a field's sort: 0 int, 1 long, 2 a reference -/
def sw_fkT : List (List Nat) := [[2, 0, 0, 0, 0, 0, 0, 2], [2, 0, 0, 2, 2, 0, 0, 0, 0], [2, 2, 2, 0, 0], [2, 0, 0], [0, 2, 2, 2, 2, 0, 0, 0, 0, 0, 0, 0, 2, 2, 0],
  [2, 2, 2, 2, 2, 2, 2, 2, 2, 2, 2, 2, 2, 0, 0, 1, 1], [2, 0, 2, 2, 2, 2, 2, 2, 2, 0, 1, 1, 0, 2, 0, 0, 0, 0, 0, 2, 0, 0, 2, 0, 0, 0, 0, 2, 2]]
def sw_fk (ci k : Nat) : Nat := (sw_fkT.getD ci []).getD k 9
/-- where a class's reference fields lead: a number, or (a Town's) how far behind the Town -/
def sw_rlT : List (List Nat) := [[15, 0, 0, 0, 0, 0, 0, 61], [15, 0, 0, 55, 56, 0, 0, 0, 0], [15, 58, 59, 0, 0], [0, 0, 0], [0, 1, 2, 3, 4, 0, 0, 0, 0, 0, 0, 0, 5, 6, 0],
  [1, 8, 9, 14, 15, 22, 29, 51, 52, 54, 57, 60, 62, 0, 0, 0, 0], [64, 0, 65, 66, 67, 68, 69, 70, 71, 0, 0, 0, 0, 72, 0, 0, 0, 0, 0, 73, 0, 0, 74, 0, 0, 0, 0, 75, 76]]
def sw_rl (ci k : Nat) : Nat := (sw_rlT.getD ci []).getD k 0
def sw_rf (st : sw_St) (o k : Nat) : Nat := if sw_kd o = 3 then st.2.2 else if sw_kd o = 4 then o + sw_rl 4 k else sw_rl (sw_kd o) k
def sw_nf (ci : Nat) : Nat := (sw_fkT.getD ci []).length
def sw_fv (g : sw_G) (st : sw_St) (o k : Nat) : Value := if sw_fk (sw_kd o) k = 0 then .int (st.1 o k) else if sw_fk (sw_kd o) k = 1 then .long (st.2.1 o k) else .ref (g.1 (sw_rf st o k))
/-- what the arrays of references hold -/
def sw_ra (i j : Nat) : Nat := if sw_kd i = 12 then 2 + j else if sw_kd i = 11 then 10 + j else 30 + 7 * j
def sw_cell (g : sw_G) (st : sw_St) (i : Nat) : va_E :=
  if sw_kd i < 7 then .inr (sw_kd i, (List.range (sw_nf (sw_kd i))).map (sw_fv g st i))
  else if sw_kd i < 10 then .inl (g.2.2 (sw_kd i), sw_ln i, .inl (st.1 i))
  else .inl (g.2.2 (sw_kd i), sw_ln i, .inr (.inr (.inr (.inr (fun j => some (g.1 (sw_ra i j)))))))
def sw_W (g : sw_G) (st : sw_St) : va_W := (List.range 77).map (fun i => (g.1 i, sw_cell g st i))
def sw_tys (g : sw_G) : List (ClassId × FieldType) := [(g.2.2 7, .byte), (g.2.2 8, .int), (g.2.2 9, .boolean), (g.2.2 10, .object "StrangersWind$Town"), (g.2.2 11, .array .byte), (g.2.2 12, .array .int)]
def sw_setC (st : sw_St) (o k : Nat) (v : Int32) : sw_St := (va_up st.1 o (upd (st.1 o) k v), st.2)
def sw_setA (st : sw_St) (o : Nat) (f : Nat → Int32) : sw_St := (va_up st.1 o f, st.2)
def sw_setJ (st : sw_St) (o k : Nat) (v : Int64) : sw_St := (st.1, va_up st.2.1 o (vp_updL (st.2.1 o) k v), st.2.2)
def sw_setB (st : sw_St) (b : Nat) : sw_St := (st.1, st.2.1, b)
def sw_Inj (g : sw_G) : Prop := ∀ i j, i < 77 → j < 77 → g.1 i = g.1 j → i = j
def sw_A (g : sw_G) (sz : Nat) : Nat → Prop := fun q => (∃ i, i < 77 ∧ q = g.1 i) ∨ sz ≤ q
theorem sw_lt {i : Nat} (h : sw_kd i < 13) : i < 77 := by
  rcases Nat.lt_or_ge i 77 with q | q
  · exact q
  · exfalso
    have e : sw_lay[i]? = none := List.getElem?_eq_none (by show 77 ≤ i; exact q)
    unfold sw_kd at h
    rw [List.getD_eq_getElem?_getD, e] at h
    exact absurd h (by decide)
theorem sw_ltk {i k : Nat} (h : sw_kd i = k) (hk : k < 13) : i < 77 := sw_lt (by rw [h]; exact hk)
theorem sw_W_get (g : sw_G) (st : sw_St) {i : Nat} (h : i < 77) : (sw_W g st)[i]? = some (g.1 i, sw_cell g st i) := by
  unfold sw_W
  rw [List.getElem?_map, List.getElem?_range h]
  rfl
theorem sw_W_len (g : sw_G) (st : sw_St) : (sw_W g st).length = 77 := by
  unfold sw_W
  rw [List.length_map, List.length_range]
theorem sw_W_set (g : sw_G) (st st' : sw_St) {o : Nat} (ho : o < 77) (e : va_E) (he : sw_cell g st' o = e) (hn : ∀ i, i ≠ o → sw_cell g st' i = sw_cell g st i) : (sw_W g st).set o (g.1 o, e) = sw_W g st' := by
  apply List.ext_getElem?
  intro i
  rw [List.getElem?_set]
  by_cases h : o = i
  · subst h
    rw [if_pos rfl, sw_W_len, if_pos ho, sw_W_get g st' ho, he]
  · rw [if_neg h]
    rcases Nat.lt_or_ge i 77 with q | q
    · rw [sw_W_get g st q, sw_W_get g st' q, hn i (fun e => h e.symm)]
    · rw [List.getElem?_eq_none (by rw [sw_W_len]; exact q), List.getElem?_eq_none (by rw [sw_W_len]; exact q)]
theorem sw_W_D (g : sw_G) (A : Nat → Prop) (hi : sw_Inj g) (hA : ∀ i, i < 77 → A (g.1 i)) (st : sw_St) : va_D A (sw_W g st) := by
  have key : ∀ (k : Nat) (q : Nat × va_E), (sw_W g st)[k]? = some q → k < 77 ∧ q.1 = g.1 k := by
    intro k q h
    have hl : k < 77 := by
      have := (List.getElem?_eq_some_iff.mp h).1
      rwa [sw_W_len] at this
    rw [sw_W_get g st hl] at h
    cases h
    exact ⟨hl, rfl⟩
  refine ⟨fun i j p q h1 h2 e => ?_, fun k q h => ?_⟩
  · obtain ⟨a1, a2⟩ := key i p h1
    obtain ⟨b1, b2⟩ := key j q h2
    exact hi i j a1 b1 (by rw [← a2, ← b2]; exact e)
  · obtain ⟨a1, a2⟩ := key k q h
    rw [a2]
    exact hA k a1
theorem sw_fs_set (n k : Nat) (f f' : Nat → Value) (v : Value) (hk : f' k = v) (hne : ∀ j, j ≠ k → f' j = f j) : ((List.range n).map f).set k v = (List.range n).map f' := by
  apply List.ext_getElem?
  intro i
  rw [List.getElem?_set]
  by_cases h : k = i
  · subst h
    rw [if_pos rfl, List.length_map, List.length_range]
    by_cases q : k < n
    · rw [if_pos q, List.getElem?_map, List.getElem?_range q]
      show some v = some (f' k)
      rw [hk]
    · rw [if_neg q, List.getElem?_eq_none (by rw [List.length_map, List.length_range]; omega)]
  · rw [if_neg h]
    by_cases q : i < n
    · rw [List.getElem?_map, List.getElem?_range q, List.getElem?_map, List.getElem?_range q]
      show some (f i) = some (f' i)
      rw [hne i (fun e => h e.symm)]
    · rw [List.getElem?_eq_none (by rw [List.length_map, List.length_range]; omega), List.getElem?_eq_none (by rw [List.length_map, List.length_range]; omega)]
theorem sw_cell_congr (g : sw_G) {st st' : sw_St} {i : Nat} (h1 : st'.1 i = st.1 i) (h2 : st'.2.1 i = st.2.1 i) (h3 : sw_kd i = 3 → st'.2.2 = st.2.2) : sw_cell g st' i = sw_cell g st i := by
  have e : sw_fv g st' i = sw_fv g st i := by
    funext k
    unfold sw_fv sw_rf
    rw [h1, h2]
    by_cases q : sw_kd i = 3
    · rw [if_pos q, if_pos q, h3 q]
    · rw [if_neg q, if_neg q]
  unfold sw_cell
  rw [e, h1]
theorem sw_cell_o (g : sw_G) (st : sw_St) {o ci : Nat} (h : sw_kd o = ci) (hc : ci < 7) : sw_cell g st o = .inr (ci, (List.range (sw_nf ci)).map (sw_fv g st o)) := by
  subst h
  unfold sw_cell
  rw [if_pos hc]
theorem sw_cell_a (g : sw_G) (st : sw_St) {a k n : Nat} (h : sw_kd a = k) (hn : sw_ln a = n) (hc : 7 ≤ k) (hc2 : k < 10) : sw_cell g st a = .inl (g.2.2 k, n, .inl (st.1 a)) := by
  subst h hn
  unfold sw_cell
  rw [if_neg (by omega), if_pos hc2]
theorem sw_cell_q (g : sw_G) (st : sw_St) {a k n : Nat} (h : sw_kd a = k) (hn : sw_ln a = n) (hc : 10 ≤ k) : sw_cell g st a = .inl (g.2.2 k, n, .inr (.inr (.inr (.inr (fun j => some (g.1 (sw_ra a j))))))) := by
  subst h hn
  unfold sw_cell
  rw [if_neg (by omega), if_neg (by omega)]
theorem sw_set_a (g : sw_G) (st : sw_St) {a k n : Nat} (h : sw_kd a = k) (hn : sw_ln a = n) (hc : 7 ≤ k) (hc2 : k < 10) (f : Nat → Int32) : (sw_W g st).set a (g.1 a, .inl (g.2.2 k, n, .inl f)) = sw_W g (sw_setA st a f) := by
  refine sw_W_set g st _ (sw_ltk h (by omega)) _ ?_ ?_
  · rw [sw_cell_a g _ h hn hc hc2]
    show Sum.inl (g.2.2 k, n, Sum.inl (va_up st.1 a f a)) = _
    rw [show (va_up st.1 a f) a = f from if_pos rfl]
  · intro i hi
    exact sw_cell_congr g (if_neg hi) rfl (fun _ => rfl)
theorem sw_setC_A (st : sw_St) (a i : Nat) (v : Int32) : sw_setA st a (upd (st.1 a) i v) = sw_setC st a i v := rfl
theorem sw_set_i (g : sw_G) (st : sw_St) {o ci k : Nat} (h : sw_kd o = ci) (hc : ci < 7) (hf : sw_fk ci k = 0) (v : Int32) : (sw_W g st).set o (g.1 o, .inr (ci, ((List.range (sw_nf ci)).map (sw_fv g st o)).set k (.int v))) = sw_W g (sw_setC st o k v) := by
  refine sw_W_set g st _ (sw_ltk h (by omega)) _ ?_ ?_
  · rw [sw_cell_o g _ h hc]
    congr 2
    symm
    refine sw_fs_set _ _ _ _ _ ?_ ?_
    · unfold sw_fv
      rw [h, if_pos hf]
      show Value.int ((va_up st.1 o (upd (st.1 o) k v)) o k) = _
      rw [show (va_up st.1 o (upd (st.1 o) k v)) o = upd (st.1 o) k v from if_pos rfl, show upd (st.1 o) k v k = v from if_pos rfl]
    · intro j hj
      unfold sw_fv sw_rf
      show (if sw_fk (sw_kd o) j = 0 then Value.int ((va_up st.1 o (upd (st.1 o) k v)) o j) else _) = _
      rw [show (va_up st.1 o (upd (st.1 o) k v)) o = upd (st.1 o) k v from if_pos rfl, show upd (st.1 o) k v j = st.1 o j from if_neg hj]
      rfl
  · intro i hi
    exact sw_cell_congr g (if_neg hi) rfl (fun _ => rfl)
theorem sw_set_l (g : sw_G) (st : sw_St) {o ci k : Nat} (h : sw_kd o = ci) (hc : ci < 7) (hf : sw_fk ci k = 1) (v : Int64) : (sw_W g st).set o (g.1 o, .inr (ci, ((List.range (sw_nf ci)).map (sw_fv g st o)).set k (.long v))) = sw_W g (sw_setJ st o k v) := by
  refine sw_W_set g st _ (sw_ltk h (by omega)) _ ?_ ?_
  · rw [sw_cell_o g _ h hc]
    congr 2
    symm
    refine sw_fs_set _ _ _ _ _ ?_ ?_
    · unfold sw_fv
      rw [h, if_neg (by omega), if_pos hf]
      show Value.long ((va_up st.2.1 o (vp_updL (st.2.1 o) k v)) o k) = _
      rw [show (va_up st.2.1 o (vp_updL (st.2.1 o) k v)) o = vp_updL (st.2.1 o) k v from if_pos rfl, show vp_updL (st.2.1 o) k v k = v from if_pos rfl]
    · intro j hj
      unfold sw_fv sw_rf
      show (if sw_fk (sw_kd o) j = 0 then Value.int (st.1 o j) else if sw_fk (sw_kd o) j = 1 then Value.long ((va_up st.2.1 o (vp_updL (st.2.1 o) k v)) o j) else _) = _
      rw [show (va_up st.2.1 o (vp_updL (st.2.1 o) k v)) o = vp_updL (st.2.1 o) k v from if_pos rfl, show vp_updL (st.2.1 o) k v j = st.2.1 o j from if_neg hj]
      rfl
  · intro i hi
    exact sw_cell_congr g rfl (if_neg hi) (fun _ => rfl)
theorem sw_kd3 {i : Nat} (h : sw_kd i = 3) : i = 52 := by
  have hl := sw_ltk h (by decide)
  exact (by decide : ∀ i : Fin 77, sw_kd i.val = 3 → i.val = 52) ⟨i, hl⟩ h
theorem sw_set_b (g : sw_G) (st : sw_St) (b : Nat) : (sw_W g st).set 52 (g.1 52, .inr (3, ((List.range (sw_nf 3)).map (sw_fv g st 52)).set 0 (.ref (g.1 b)))) = sw_W g (sw_setB st b) := by
  refine sw_W_set g st _ (by decide) _ ?_ ?_
  · rw [sw_cell_o g _ (show sw_kd 52 = 3 from rfl) (by decide)]
    rfl
  · intro i hi
    exact sw_cell_congr g rfl rfl (fun h => absurd (sw_kd3 h) hi)
theorem sw_fvI (g : sw_G) (st : sw_St) {o ci k : Nat} (h : sw_kd o = ci) (hf : sw_fk ci k = 0) : sw_fv g st o k = .int (st.1 o k) := by
  unfold sw_fv
  rw [h, if_pos hf]
theorem sw_fvL (g : sw_G) (st : sw_St) {o ci k : Nat} (h : sw_kd o = ci) (hf : sw_fk ci k = 1) : sw_fv g st o k = .long (st.2.1 o k) := by
  unfold sw_fv
  rw [h, if_neg (by omega), if_pos hf]
theorem sw_fvR (g : sw_G) (st : sw_St) {o ci k : Nat} (h : sw_kd o = ci) (hf : sw_fk ci k = 2) : sw_fv g st o k = .ref (g.1 (sw_rf st o k)) := by
  unfold sw_fv
  rw [h, if_neg (by omega), if_neg (by omega)]
theorem sw_rfT (st : sw_St) {t k : Nat} (h : sw_kd t = 4) : sw_rf st t k = t + sw_rl 4 k := by
  unfold sw_rf
  rw [if_neg (by omega), if_pos h]
theorem sw_tw {t : Nat} (h : sw_kd t = 4) : t = 15 ∨ t = 22 ∨ t = 30 ∨ t = 37 ∨ t = 44 := by
  have hl := sw_ltk h (by decide)
  exact (by decide : ∀ t : Fin 77, sw_kd t.val = 4 → t.val = 15 ∨ t.val = 22 ∨ t.val = 30 ∨ t.val = 37 ∨ t.val = 44) ⟨t, hl⟩ h
theorem sw_tw1 {t : Nat} (h : sw_kd t = 4) (k : Nat) (hk : k < 6) : sw_kd (t + (k + 1)) = 8 ∧ sw_ln (t + (k + 1)) = if k < 4 then 6 else 40 := by
  have hk' : k = 0 ∨ k = 1 ∨ k = 2 ∨ k = 3 ∨ k = 4 ∨ k = 5 := by omega
  rcases sw_tw h with rfl | rfl | rfl | rfl | rfl <;> rcases hk' with rfl | rfl | rfl | rfl | rfl | rfl <;> exact ⟨rfl, rfl⟩
end
section
def sw_tbl : List Cond := lw_tbl.filter goodWord
theorem sw_mem {w : Cond} (h : w ∈ lw_tbl) (hg : goodWord w = true) : w ∈ sw_tbl := List.mem_filter.mpr ⟨h, hg⟩
def sw_rm (d : Nat) : Room := { frames := d, cells := 0, slots := 0, locals := 64 * d }
def sw_V (p : Program) (l : Launch) (e : Env) (d : Nat) (s : State) (m : MethodId) (args : Array Value) (below : List Frame) (meth : Method) (c : Code) (g : sw_G) (A : Nat → Prop) (Q : State → Prop) (nL pc : Nat) (lo : List (Nat × Value)) (stk : List Value) (st : sw_St) : Prop :=
  ∀ (H : Heap) (lcs : List Loc) (ls : Array Slot), va_P g.2.1 vwCl (sw_W g st) H → va_S A s.heap H lcs → lv_has ls nL lo → W p l e (sw_rm d) s m args below meth c H lcs 0 0 Q (F0 m pc ls stk)
def sw_Ok (p : Program) (s : State) (m : MethodId) (args : Array Value) (c : Code) (cc : ByteArray) (own : String) (nL : Nat) (g : sw_G) (A : Nat → Prop) : Prop :=
  p.tables.exec = Jvm.exec ∧ c.code = cc ∧ c.maxLocals = nL ∧ s.vm.findClass own = some m.cls ∧ (∀ w ∈ sw_tbl, w.before args s = true) ∧ va_K g.2.1 vwCl (sw_tys g) s ∧ sw_Inj g ∧ (∀ i, i < 77 → A (g.1 i)) ∧ (∀ q, s.heap.size ≤ q → A q)
theorem sw_good {cw : Cond} (h : cw ∈ sw_tbl) : GoodIn sw_tbl (cw :: sw_tbl) := by
  have key : ∀ w ∈ sw_tbl, w ∈ sw_tbl ∧ ((w.onTables && w.keeps) = true ∨ ∃ ty, w = .arrayClass ty) := fun w hw => ⟨hw, good_of_word (List.mem_filter.mp hw).2⟩
  intro w hw
  rcases List.mem_cons.mp hw with rfl | hw
  · exact key _ h
  · exact key _ hw
/-! words of a computation: a name, a join, a loop, a bound, a call -/
def nm {α β : Type} (x : α) (k : α → β) : β := k x
theorem nm_E {α β : Type} {x : α} {k : α → Option β} {r : β} (h : nm x k = some r) {y : α} (hy : y = x) : k y = some r := by subst hy; exact h
def bnd {β : Type} (i : Int32) (n : Nat) (k : Option β) : Option β := if i < 0 ∨ n ≤ i.toNatClampNeg then none else k
theorem bnd_E {β : Type} {i : Int32} {n : Nat} {k : Option β} {r : β} (h : bnd i n k = some r) : vp_in i n ∧ k = some r := by
  unfold bnd at h
  by_cases q : i < 0 ∨ n ≤ i.toNatClampNeg
  · rw [if_pos q] at h; cases h
  · rw [if_neg q] at h; exact ⟨q, h⟩
theorem ite_T {β : Type} {c : Prop} {i : Decidable c} {a b : Option β} {r : β} (h : @ite _ c i a b = some r) (hc : c) : a = some r := by rw [if_pos hc] at h; exact h
theorem ite_F {β : Type} {c : Prop} {i : Decidable c} {a b : Option β} {r : β} (h : @ite _ c i a b = some r) (hc : ¬ c) : b = some r := by rw [if_neg hc] at h; exact h
def grd {β : Type} (c : Prop) [Decidable c] (k : Option β) : Option β := if c then k else none
theorem grd_E {β : Type} {c : Prop} [Decidable c] {k : Option β} {r : β} (h : grd c k = some r) : c ∧ k = some r := by
  unfold grd at h
  by_cases q : c
  · rw [if_pos q] at h; exact ⟨q, h⟩
  · rw [if_neg q] at h; cases h
def bd {α σ β : Type} (o : Option (α × σ)) (k : α → σ → Option β) : Option β := match o with
  | none => none
  | some (a, t) => k a t
theorem bd_E {α σ β : Type} {o : Option (α × σ)} {k : α → σ → Option β} {r : β} (h : bd o k = some r) : ∃ a t, o = some (a, t) ∧ k a t = some r := by
  cases o with
  | none => cases h
  | some q => exact ⟨q.1, q.2, rfl, h⟩
def lp {σ β : Type} (body : (σ → Option β) → σ → Option β) : Nat → σ → Option β
  | 0, _ => none
  | n + 1, t => body (lp body n) t
theorem lp_E {σ β : Type} {body : (σ → Option β) → σ → Option β} {r : β} (G : σ → Prop) (hs : ∀ (f : σ → Option β), (∀ t, f t = some r → G t) → ∀ t, body f t = some r → G t) : ∀ (n : Nat) (t : σ), lp body n t = some r → G t
  | 0, _, h => by cases h
  | n + 1, t, h => hs (lp body n) (lp_E G hs n) t h
def jn {σ β : Type} (k : σ → Option β) (body : (σ → Option β) → Option β) : Option β := body k

section SWR
variable {p : Program} {l : Launch} {e : Env} {d : Nat} {s : State} {m : MethodId} {args : Array Value} {below : List Frame} {meth : Method} {c : Code} {cc : ByteArray} {own : String} {nL : Nat} {g : sw_G} {A : Nat → Prop} {Q : State → Prop} {pc : Nat} {lo : List (Nat × Value)} {rest : List Value} {st : sw_St}
theorem sw_iadd (X : sw_Ok p s m args c cc own nL g A) {x y : Int32} (dg : decode cc pc = .ok (.iadd, 1)) (k : sw_V p l e d s m args below meth c g A Q nL (pc + 1) lo (.int (x + y) :: rest) st) : sw_V p l e d s m args below meth c g A Q nL pc lo (.int y :: .int x :: rest) st := fun H lcs ls hP hS hl => lv_iadd X.1 X.2.1 dg (k H lcs ls hP hS hl)
theorem sw_isub (X : sw_Ok p s m args c cc own nL g A) {x y : Int32} (dg : decode cc pc = .ok (.isub, 1)) (k : sw_V p l e d s m args below meth c g A Q nL (pc + 1) lo (.int (x - y) :: rest) st) : sw_V p l e d s m args below meth c g A Q nL pc lo (.int y :: .int x :: rest) st := fun H lcs ls hP hS hl => lv_isub X.1 X.2.1 dg (k H lcs ls hP hS hl)
theorem sw_imul (X : sw_Ok p s m args c cc own nL g A) {x y : Int32} (dg : decode cc pc = .ok (.imul, 1)) (k : sw_V p l e d s m args below meth c g A Q nL (pc + 1) lo (.int (x * y) :: rest) st) : sw_V p l e d s m args below meth c g A Q nL pc lo (.int y :: .int x :: rest) st := fun H lcs ls hP hS hl => lv_imul X.1 X.2.1 dg (k H lcs ls hP hS hl)
theorem sw_iand (X : sw_Ok p s m args c cc own nL g A) {x y : Int32} (dg : decode cc pc = .ok (.iand, 1)) (k : sw_V p l e d s m args below meth c g A Q nL (pc + 1) lo (.int (x &&& y) :: rest) st) : sw_V p l e d s m args below meth c g A Q nL pc lo (.int y :: .int x :: rest) st := fun H lcs ls hP hS hl => lv_iand X.1 X.2.1 dg (k H lcs ls hP hS hl)
theorem sw_ior (X : sw_Ok p s m args c cc own nL g A) {x y : Int32} (dg : decode cc pc = .ok (.ior, 1)) (k : sw_V p l e d s m args below meth c g A Q nL (pc + 1) lo (.int (x ||| y) :: rest) st) : sw_V p l e d s m args below meth c g A Q nL pc lo (.int y :: .int x :: rest) st := fun H lcs ls hP hS hl => lv_ior X.1 X.2.1 dg (k H lcs ls hP hS hl)
theorem sw_ixor (X : sw_Ok p s m args c cc own nL g A) {x y : Int32} (dg : decode cc pc = .ok (.ixor, 1)) (k : sw_V p l e d s m args below meth c g A Q nL (pc + 1) lo (.int (x ^^^ y) :: rest) st) : sw_V p l e d s m args below meth c g A Q nL pc lo (.int y :: .int x :: rest) st := fun H lcs ls hP hS hl => lv_ixor X.1 X.2.1 dg (k H lcs ls hP hS hl)
theorem sw_ishl (X : sw_Ok p s m args c cc own nL g A) {x y : Int32} (dg : decode cc pc = .ok (.ishl, 1)) (k : sw_V p l e d s m args below meth c g A Q nL (pc + 1) lo (.int (x <<< (y &&& 31)) :: rest) st) : sw_V p l e d s m args below meth c g A Q nL pc lo (.int y :: .int x :: rest) st := fun H lcs ls hP hS hl => lv_ishl X.1 X.2.1 dg (k H lcs ls hP hS hl)
theorem sw_ishr (X : sw_Ok p s m args c cc own nL g A) {x y : Int32} (dg : decode cc pc = .ok (.ishr, 1)) (k : sw_V p l e d s m args below meth c g A Q nL (pc + 1) lo (.int (x >>> (y &&& 31)) :: rest) st) : sw_V p l e d s m args below meth c g A Q nL pc lo (.int y :: .int x :: rest) st := fun H lcs ls hP hS hl => lv_ishr X.1 X.2.1 dg (k H lcs ls hP hS hl)
theorem sw_iushr (X : sw_Ok p s m args c cc own nL g A) {x y : Int32} (dg : decode cc pc = .ok (.iushr, 1)) (k : sw_V p l e d s m args below meth c g A Q nL (pc + 1) lo (.int ((x.toUInt32 >>> (y.toUInt32 &&& Int32.toUInt32 31)).toInt32) :: rest) st) : sw_V p l e d s m args below meth c g A Q nL pc lo (.int y :: .int x :: rest) st := fun H lcs ls hP hS hl => lv_iushr X.1 X.2.1 dg rfl (k H lcs ls hP hS hl)
theorem sw_idiv (X : sw_Ok p s m args c cc own nL g A) {x y : Int32} (hne : ¬ y = 0) (dg : decode cc pc = .ok (.idiv, 1)) (k : sw_V p l e d s m args below meth c g A Q nL (pc + 1) lo (.int (x / y) :: rest) st) : sw_V p l e d s m args below meth c g A Q nL pc lo (.int y :: .int x :: rest) st := fun H lcs ls hP hS hl => lv_idiv X.1 X.2.1 dg hne (k H lcs ls hP hS hl)
theorem sw_irem (X : sw_Ok p s m args c cc own nL g A) {x y : Int32} (hne : ¬ y = 0) (dg : decode cc pc = .ok (.irem, 1)) (k : sw_V p l e d s m args below meth c g A Q nL (pc + 1) lo (.int (x - x / y * y) :: rest) st) : sw_V p l e d s m args below meth c g A Q nL pc lo (.int y :: .int x :: rest) st := fun H lcs ls hP hS hl => lv_irem X.1 X.2.1 dg hne (k H lcs ls hP hS hl)
theorem sw_ldiv (X : sw_Ok p s m args c cc own nL g A) {x y : Int64} (hne : ¬ y = 0) (dg : decode cc pc = .ok (.ldiv, 1)) (k : sw_V p l e d s m args below meth c g A Q nL (pc + 1) lo (.long (x / y) :: rest) st) : sw_V p l e d s m args below meth c g A Q nL pc lo (.long y :: .long x :: rest) st := fun H lcs ls hP hS hl => lv_ldiv X.1 X.2.1 dg hne (k H lcs ls hP hS hl)
theorem sw_lrem (X : sw_Ok p s m args c cc own nL g A) {x y : Int64} (hne : ¬ y = 0) (dg : decode cc pc = .ok (.lrem, 1)) (k : sw_V p l e d s m args below meth c g A Q nL (pc + 1) lo (.long (x - x / y * y) :: rest) st) : sw_V p l e d s m args below meth c g A Q nL pc lo (.long y :: .long x :: rest) st := fun H lcs ls hP hS hl => lv_lrem X.1 X.2.1 dg hne (k H lcs ls hP hS hl)
theorem sw_ladd (X : sw_Ok p s m args c cc own nL g A) {x y : Int64} (dg : decode cc pc = .ok (.ladd, 1)) (k : sw_V p l e d s m args below meth c g A Q nL (pc + 1) lo (.long (x + y) :: rest) st) : sw_V p l e d s m args below meth c g A Q nL pc lo (.long y :: .long x :: rest) st := fun H lcs ls hP hS hl => lv_ladd X.1 X.2.1 dg (k H lcs ls hP hS hl)
theorem sw_lsub (X : sw_Ok p s m args c cc own nL g A) {x y : Int64} (dg : decode cc pc = .ok (.lsub, 1)) (k : sw_V p l e d s m args below meth c g A Q nL (pc + 1) lo (.long (x - y) :: rest) st) : sw_V p l e d s m args below meth c g A Q nL pc lo (.long y :: .long x :: rest) st := fun H lcs ls hP hS hl => lv_lsub X.1 X.2.1 dg (k H lcs ls hP hS hl)
theorem sw_lmul (X : sw_Ok p s m args c cc own nL g A) {x y : Int64} (dg : decode cc pc = .ok (.lmul, 1)) (k : sw_V p l e d s m args below meth c g A Q nL (pc + 1) lo (.long (x * y) :: rest) st) : sw_V p l e d s m args below meth c g A Q nL pc lo (.long y :: .long x :: rest) st := fun H lcs ls hP hS hl => lv_lmul X.1 X.2.1 dg (k H lcs ls hP hS hl)
theorem sw_lcmp (X : sw_Ok p s m args c cc own nL g A) {x y : Int64} (dg : decode cc pc = .ok (.lcmp, 1)) (k : sw_V p l e d s m args below meth c g A Q nL (pc + 1) lo (.int (lg_cmp x y) :: rest) st) : sw_V p l e d s m args below meth c g A Q nL pc lo (.long y :: .long x :: rest) st := fun H lcs ls hP hS hl => W.lcmp X.1 X.2.1 dg (k H lcs ls hP hS hl)
theorem sw_ineg (X : sw_Ok p s m args c cc own nL g A) {x : Int32} (dg : decode cc pc = .ok (.ineg, 1)) (k : sw_V p l e d s m args below meth c g A Q nL (pc + 1) lo (.int (-x) :: rest) st) : sw_V p l e d s m args below meth c g A Q nL pc lo (.int x :: rest) st := fun H lcs ls hP hS hl => lv_ineg X.1 X.2.1 dg (k H lcs ls hP hS hl)
theorem sw_i2l (X : sw_Ok p s m args c cc own nL g A) {x : Int32} (dg : decode cc pc = .ok (.i2l, 1)) (k : sw_V p l e d s m args below meth c g A Q nL (pc + 1) lo (.long x.toInt64 :: rest) st) : sw_V p l e d s m args below meth c g A Q nL pc lo (.int x :: rest) st := fun H lcs ls hP hS hl => lv_i2l X.1 X.2.1 dg rfl (k H lcs ls hP hS hl)
theorem sw_l2i (X : sw_Ok p s m args c cc own nL g A) {x : Int64} (dg : decode cc pc = .ok (.l2i, 1)) (k : sw_V p l e d s m args below meth c g A Q nL (pc + 1) lo (.int x.toInt32 :: rest) st) : sw_V p l e d s m args below meth c g A Q nL pc lo (.long x :: rest) st := fun H lcs ls hP hS hl => lv_l2i X.1 X.2.1 dg rfl (k H lcs ls hP hS hl)
theorem sw_i2b (X : sw_Ok p s m args c cc own nL g A) {x : Int32} (dg : decode cc pc = .ok (.i2b, 1)) (k : sw_V p l e d s m args below meth c g A Q nL (pc + 1) lo (.int x.toInt8.toInt32 :: rest) st) : sw_V p l e d s m args below meth c g A Q nL pc lo (.int x :: rest) st := fun H lcs ls hP hS hl => lv_i2b X.1 X.2.1 dg rfl (k H lcs ls hP hS hl)
theorem sw_iconst (X : sw_Ok p s m args c cc own nL g A) {n : Int} {v : Int32} (hv : Int32.ofInt n = v) (dg : decode cc pc = .ok (.iconst n, 1)) (k : sw_V p l e d s m args below meth c g A Q nL (pc + 1) lo (.int v :: rest) st) : sw_V p l e d s m args below meth c g A Q nL pc lo rest st := fun H lcs ls hP hS hl => lv_iconst X.1 X.2.1 dg hv (k H lcs ls hP hS hl)
theorem sw_bipush (X : sw_Ok p s m args c cc own nL g A) {n : Int} {v : Int32} (hv : (Int8.ofInt n).toInt32 = v) (dg : decode cc pc = .ok (.bipush n, 2)) (k : sw_V p l e d s m args below meth c g A Q nL (pc + 2) lo (.int v :: rest) st) : sw_V p l e d s m args below meth c g A Q nL pc lo rest st := fun H lcs ls hP hS hl => lv_bipush X.1 X.2.1 dg hv (k H lcs ls hP hS hl)
theorem sw_sipush (X : sw_Ok p s m args c cc own nL g A) {n : Int} {v : Int32} (hv : (Int16.ofInt n).toInt32 = v) (dg : decode cc pc = .ok (.sipush n, 3)) (k : sw_V p l e d s m args below meth c g A Q nL (pc + 3) lo (.int v :: rest) st) : sw_V p l e d s m args below meth c g A Q nL pc lo rest st := fun H lcs ls hP hS hl => lv_sipush X.1 X.2.1 dg hv (k H lcs ls hP hS hl)
theorem sw_lconst (X : sw_Ok p s m args c cc own nL g A) {n : Fin 2} {v : Int64} (hv : Int64.ofNat n = v) (dg : decode cc pc = .ok (.lconst n, 1)) (k : sw_V p l e d s m args below meth c g A Q nL (pc + 1) lo (.long v :: rest) st) : sw_V p l e d s m args below meth c g A Q nL pc lo rest st := fun H lcs ls hP hS hl => lv_lconst X.1 X.2.1 dg hv (k H lcs ls hP hS hl)
theorem sw_ldc2 (X : sw_Ok p s m args c cc own nL g A) {index : Nat} {v : Int64} (hc : Cond.constantLong own index v ∈ sw_tbl) (dg : decode cc pc = .ok (.ldc2_w index, 3)) (k : sw_V p l e d s m args below meth c g A Q nL (pc + 3) lo (.long v :: rest) st) : sw_V p l e d s m args below meth c g A Q nL pc lo rest st := fun H lcs ls hP hS hl => lv_ldc2 X.1 X.2.1 X.2.2.2.1 (X.2.2.2.2.1 _ hc) dg (k H lcs ls hP hS hl)
theorem sw_ldcw (X : sw_Ok p s m args c cc own nL g A) {index : Nat} {v : Int32} (hc : Cond.constant own index v ∈ sw_tbl) (dg : decode cc pc = .ok (.ldc_w index, 3)) (k : sw_V p l e d s m args below meth c g A Q nL (pc + 3) lo (.int v :: rest) st) : sw_V p l e d s m args below meth c g A Q nL pc lo rest st := fun H lcs ls hP hS hl => lv_ldcw X.1 X.2.1 X.2.2.2.1 (X.2.2.2.2.1 _ hc) dg (k H lcs ls hP hS hl)
theorem sw_iload_n (X : sw_Ok p s m args c cc own nL g A) (q : Nat) {n : Fin 4} {i : Nat} {x : Int32} (hl0 : lo[q]? = some (i, .int x)) (hi : (n : Nat) = i) (dg : decode cc pc = .ok (.iload_n n, 1)) (k : sw_V p l e d s m args below meth c g A Q nL (pc + 1) lo (.int x :: rest) st) : sw_V p l e d s m args below meth c g A Q nL pc lo rest st := fun H lcs ls hP hS hl => lv_iload_n X.1 X.2.1 dg hi (lv_at hl q hl0) (k H lcs ls hP hS hl)
theorem sw_iload (X : sw_Ok p s m args c cc own nL g A) (q : Nat) {i : Nat} {x : Int32} (hl0 : lo[q]? = some (i, .int x)) (dg : decode cc pc = .ok (.iload i, 2)) (k : sw_V p l e d s m args below meth c g A Q nL (pc + 2) lo (.int x :: rest) st) : sw_V p l e d s m args below meth c g A Q nL pc lo rest st := fun H lcs ls hP hS hl => lv_iload X.1 X.2.1 dg (lv_at hl q hl0) (k H lcs ls hP hS hl)
theorem sw_lload_n (X : sw_Ok p s m args c cc own nL g A) (q : Nat) {n : Fin 4} {i : Nat} {x : Int64} (hl0 : lo[q]? = some (i, .long x)) (hi : (n : Nat) = i) (dg : decode cc pc = .ok (.lload_n n, 1)) (k : sw_V p l e d s m args below meth c g A Q nL (pc + 1) lo (.long x :: rest) st) : sw_V p l e d s m args below meth c g A Q nL pc lo rest st := fun H lcs ls hP hS hl => lv_lload_n X.1 X.2.1 dg hi (lv_at hl q hl0) (k H lcs ls hP hS hl)
theorem sw_lload (X : sw_Ok p s m args c cc own nL g A) (q : Nat) {i : Nat} {x : Int64} (hl0 : lo[q]? = some (i, .long x)) (dg : decode cc pc = .ok (.lload i, 2)) (k : sw_V p l e d s m args below meth c g A Q nL (pc + 2) lo (.long x :: rest) st) : sw_V p l e d s m args below meth c g A Q nL pc lo rest st := fun H lcs ls hP hS hl => lv_lload X.1 X.2.1 dg (lv_at hl q hl0) (k H lcs ls hP hS hl)
theorem sw_aload_n (X : sw_Ok p s m args c cc own nL g A) (q : Nat) {n : Fin 4} {i : Nat} {x : Nat} (hl0 : lo[q]? = some (i, .ref x)) (hi : (n : Nat) = i) (dg : decode cc pc = .ok (.aload_n n, 1)) (k : sw_V p l e d s m args below meth c g A Q nL (pc + 1) lo (.ref x :: rest) st) : sw_V p l e d s m args below meth c g A Q nL pc lo rest st := fun H lcs ls hP hS hl => lv_aload_n X.1 X.2.1 dg hi (lv_at hl q hl0) (k H lcs ls hP hS hl)
theorem sw_aload (X : sw_Ok p s m args c cc own nL g A) (q : Nat) {i : Nat} {x : Nat} (hl0 : lo[q]? = some (i, .ref x)) (dg : decode cc pc = .ok (.aload i, 2)) (k : sw_V p l e d s m args below meth c g A Q nL (pc + 2) lo (.ref x :: rest) st) : sw_V p l e d s m args below meth c g A Q nL pc lo rest st := fun H lcs ls hP hS hl => lv_aload X.1 X.2.1 dg (lv_at hl q hl0) (k H lcs ls hP hS hl)
theorem sw_istore_n (X : sw_Ok p s m args c cc own nL g A) {n : Fin 4} {i : Nat} {x : Int32} (lo1 : List (Nat × Value)) (hi : (n : Nat) = i) (hn : i < nL) (hl1 : (i, Value.int x) :: lo.filter (fun q => !(q.1 == i) && !(q.1 + 1 == i && q.2.category == 2)) = lo1) (dg : decode cc pc = .ok (.istore_n n, 1)) (k : sw_V p l e d s m args below meth c g A Q nL (pc + 1) lo1 rest st) : sw_V p l e d s m args below meth c g A Q nL pc lo (.int x :: rest) st := fun H lcs ls hP hS hl => lv_istore_n X.1 X.2.1 dg hi hl hn hl1 (fun ls1 hl1 => k H lcs ls1 hP hS hl1)
theorem sw_istore (X : sw_Ok p s m args c cc own nL g A) {i : Nat} {x : Int32} (lo1 : List (Nat × Value)) (hn : i < nL) (hl1 : (i, Value.int x) :: lo.filter (fun q => !(q.1 == i) && !(q.1 + 1 == i && q.2.category == 2)) = lo1) (dg : decode cc pc = .ok (.istore i, 2)) (k : sw_V p l e d s m args below meth c g A Q nL (pc + 2) lo1 rest st) : sw_V p l e d s m args below meth c g A Q nL pc lo (.int x :: rest) st := fun H lcs ls hP hS hl => lv_istore X.1 X.2.1 dg hl hn hl1 (fun ls1 hl1 => k H lcs ls1 hP hS hl1)
theorem sw_astore_n (X : sw_Ok p s m args c cc own nL g A) {n : Fin 4} {i : Nat} {x : Nat} (lo1 : List (Nat × Value)) (hi : (n : Nat) = i) (hn : i < nL) (hl1 : (i, Value.ref x) :: lo.filter (fun q => !(q.1 == i) && !(q.1 + 1 == i && q.2.category == 2)) = lo1) (dg : decode cc pc = .ok (.astore_n n, 1)) (k : sw_V p l e d s m args below meth c g A Q nL (pc + 1) lo1 rest st) : sw_V p l e d s m args below meth c g A Q nL pc lo (.ref x :: rest) st := fun H lcs ls hP hS hl => lv_astore_n X.1 X.2.1 dg hi hl hn hl1 (fun ls1 hl1 => k H lcs ls1 hP hS hl1)
theorem sw_astore (X : sw_Ok p s m args c cc own nL g A) {i : Nat} {x : Nat} (lo1 : List (Nat × Value)) (hn : i < nL) (hl1 : (i, Value.ref x) :: lo.filter (fun q => !(q.1 == i) && !(q.1 + 1 == i && q.2.category == 2)) = lo1) (dg : decode cc pc = .ok (.astore i, 2)) (k : sw_V p l e d s m args below meth c g A Q nL (pc + 2) lo1 rest st) : sw_V p l e d s m args below meth c g A Q nL pc lo (.ref x :: rest) st := fun H lcs ls hP hS hl => lv_astore X.1 X.2.1 dg hl hn hl1 (fun ls1 hl1 => k H lcs ls1 hP hS hl1)
theorem sw_lstore_n (X : sw_Ok p s m args c cc own nL g A) {n : Fin 4} {i : Nat} {x : Int64} (lo1 : List (Nat × Value)) (hi : (n : Nat) = i) (hn : i + 1 < nL) (hl1 : (i, Value.long x) :: lo.filter (fun q => !(q.1 == i) && (!(q.1 == i + 1) && !(q.1 + 1 == i && q.2.category == 2))) = lo1) (dg : decode cc pc = .ok (.lstore_n n, 1)) (k : sw_V p l e d s m args below meth c g A Q nL (pc + 1) lo1 rest st) : sw_V p l e d s m args below meth c g A Q nL pc lo (.long x :: rest) st := fun H lcs ls hP hS hl => lv_lstore_n X.1 X.2.1 dg hi hl hn hl1 (fun ls1 hl1 => k H lcs ls1 hP hS hl1)
theorem sw_lstore (X : sw_Ok p s m args c cc own nL g A) {i : Nat} {x : Int64} (lo1 : List (Nat × Value)) (hn : i + 1 < nL) (hl1 : (i, Value.long x) :: lo.filter (fun q => !(q.1 == i) && (!(q.1 == i + 1) && !(q.1 + 1 == i && q.2.category == 2))) = lo1) (dg : decode cc pc = .ok (.lstore i, 2)) (k : sw_V p l e d s m args below meth c g A Q nL (pc + 2) lo1 rest st) : sw_V p l e d s m args below meth c g A Q nL pc lo (.long x :: rest) st := fun H lcs ls hP hS hl => lv_lstore X.1 X.2.1 dg hl hn hl1 (fun ls1 hl1 => k H lcs ls1 hP hS hl1)
theorem sw_iinc (X : sw_Ok p s m args c cc own nL g A) (q : Nat) {i : Nat} {n : Int} {x : Int32} (v : Int32) (lo1 : List (Nat × Value)) (hk : lo[q]? = some (i, .int x)) (hv : x + Int32.ofInt n = v) (hn : i < nL) (hl1 : (i, Value.int v) :: lo.filter (fun q => !(q.1 == i) && !(q.1 + 1 == i && q.2.category == 2)) = lo1) (dg : decode cc pc = .ok (.iinc i n, 3)) (k : sw_V p l e d s m args below meth c g A Q nL (pc + 3) lo1 rest st) : sw_V p l e d s m args below meth c g A Q nL pc lo rest st := fun H lcs ls hP hS hl => lv_iinc X.1 X.2.1 dg hl hk hv hn hl1 (fun ls1 hl1 => k H lcs ls1 hP hS hl1)
theorem sw_dup (X : sw_Ok p s m args c cc own nL g A) {v : Value} (hv : v.category = 1) (dg : decode cc pc = .ok (.dup, 1)) (k : sw_V p l e d s m args below meth c g A Q nL (pc + 1) lo (v :: v :: rest) st) : sw_V p l e d s m args below meth c g A Q nL pc lo (v :: rest) st := fun H lcs ls hP hS hl => lv_dup X.1 X.2.1 dg hv (k H lcs ls hP hS hl)
theorem sw_pop (X : sw_Ok p s m args c cc own nL g A) {v : Value} (hv : v.category = 1) (dg : decode cc pc = .ok (.pop, 1)) (k : sw_V p l e d s m args below meth c g A Q nL (pc + 1) lo rest st) : sw_V p l e d s m args below meth c g A Q nL pc lo (v :: rest) st := fun H lcs ls hP hS hl => lv_pop X.1 X.2.1 dg hv (k H lcs ls hP hS hl)
theorem sw_dup2 (X : sw_Ok p s m args c cc own nL g A) {v u : Value} (hv : v.category = 1) (hu : u.category = 1) (dg : decode cc pc = .ok (.dup2, 1)) (k : sw_V p l e d s m args below meth c g A Q nL (pc + 1) lo (v :: u :: v :: u :: rest) st) : sw_V p l e d s m args below meth c g A Q nL pc lo (v :: u :: rest) st := fun H lcs ls hP hS hl => lv_dup2_11 X.1 X.2.1 dg hv hu (k H lcs ls hP hS hl)
theorem sw_goto (X : sw_Ok p s m args c cc own nL g A) (tgt : Nat) {off : Int} (ht : (pc : Int) + off = (tgt : Int)) (dg : decode cc pc = .ok (.goto off, 3)) (k : sw_V p l e d s m args below meth c g A Q nL tgt lo rest st) : sw_V p l e d s m args below meth c g A Q nL pc lo rest st := fun H lcs ls hP hS hl => lv_goto X.1 X.2.1 dg ht (k H lcs ls hP hS hl)
theorem sw_if_eq (X : sw_Ok p s m args c cc own nL g A) {x : Int32} {off : Int} (tgt : Nat) (ht : (pc : Int) + off = (tgt : Int)) (dg : decode cc pc = .ok (.ifCond .eq off, 3)) (kt : x = 0 → sw_V p l e d s m args below meth c g A Q nL tgt lo rest st) (kf : ¬ x = 0 → sw_V p l e d s m args below meth c g A Q nL (pc + 3) lo rest st) : sw_V p l e d s m args below meth c g A Q nL pc lo (.int x :: rest) st := fun H lcs ls hP hS hl => lv_if_eq X.1 X.2.1 dg ht (fun q => kt q H lcs ls hP hS hl) (fun q => kf q H lcs ls hP hS hl)
theorem sw_icmp_eq (X : sw_Ok p s m args c cc own nL g A) {x y : Int32} {off : Int} (tgt : Nat) (ht : (pc : Int) + off = (tgt : Int)) (dg : decode cc pc = .ok (.if_icmp .eq off, 3)) (kt : x = y → sw_V p l e d s m args below meth c g A Q nL tgt lo rest st) (kf : ¬ x = y → sw_V p l e d s m args below meth c g A Q nL (pc + 3) lo rest st) : sw_V p l e d s m args below meth c g A Q nL pc lo (.int y :: .int x :: rest) st := fun H lcs ls hP hS hl => lv_icmp_eq X.1 X.2.1 dg ht (fun q => kt q H lcs ls hP hS hl) (fun q => kf q H lcs ls hP hS hl)
theorem sw_if_ne (X : sw_Ok p s m args c cc own nL g A) {x : Int32} {off : Int} (tgt : Nat) (ht : (pc : Int) + off = (tgt : Int)) (dg : decode cc pc = .ok (.ifCond .ne off, 3)) (kt : ¬ x = 0 → sw_V p l e d s m args below meth c g A Q nL tgt lo rest st) (kf : x = 0 → sw_V p l e d s m args below meth c g A Q nL (pc + 3) lo rest st) : sw_V p l e d s m args below meth c g A Q nL pc lo (.int x :: rest) st := fun H lcs ls hP hS hl => lv_if_ne X.1 X.2.1 dg ht (fun q => kt q H lcs ls hP hS hl) (fun q => kf q H lcs ls hP hS hl)
theorem sw_icmp_ne (X : sw_Ok p s m args c cc own nL g A) {x y : Int32} {off : Int} (tgt : Nat) (ht : (pc : Int) + off = (tgt : Int)) (dg : decode cc pc = .ok (.if_icmp .ne off, 3)) (kt : ¬ x = y → sw_V p l e d s m args below meth c g A Q nL tgt lo rest st) (kf : x = y → sw_V p l e d s m args below meth c g A Q nL (pc + 3) lo rest st) : sw_V p l e d s m args below meth c g A Q nL pc lo (.int y :: .int x :: rest) st := fun H lcs ls hP hS hl => lv_icmp_ne X.1 X.2.1 dg ht (fun q => kt q H lcs ls hP hS hl) (fun q => kf q H lcs ls hP hS hl)
theorem sw_if_lt (X : sw_Ok p s m args c cc own nL g A) {x : Int32} {off : Int} (tgt : Nat) (ht : (pc : Int) + off = (tgt : Int)) (dg : decode cc pc = .ok (.ifCond .lt off, 3)) (kt : x < 0 → sw_V p l e d s m args below meth c g A Q nL tgt lo rest st) (kf : ¬ x < 0 → sw_V p l e d s m args below meth c g A Q nL (pc + 3) lo rest st) : sw_V p l e d s m args below meth c g A Q nL pc lo (.int x :: rest) st := fun H lcs ls hP hS hl => lv_if_lt X.1 X.2.1 dg ht (fun q => kt q H lcs ls hP hS hl) (fun q => kf q H lcs ls hP hS hl)
theorem sw_icmp_lt (X : sw_Ok p s m args c cc own nL g A) {x y : Int32} {off : Int} (tgt : Nat) (ht : (pc : Int) + off = (tgt : Int)) (dg : decode cc pc = .ok (.if_icmp .lt off, 3)) (kt : x < y → sw_V p l e d s m args below meth c g A Q nL tgt lo rest st) (kf : ¬ x < y → sw_V p l e d s m args below meth c g A Q nL (pc + 3) lo rest st) : sw_V p l e d s m args below meth c g A Q nL pc lo (.int y :: .int x :: rest) st := fun H lcs ls hP hS hl => lv_icmp_lt X.1 X.2.1 dg ht (fun q => kt q H lcs ls hP hS hl) (fun q => kf q H lcs ls hP hS hl)
theorem sw_if_ge (X : sw_Ok p s m args c cc own nL g A) {x : Int32} {off : Int} (tgt : Nat) (ht : (pc : Int) + off = (tgt : Int)) (dg : decode cc pc = .ok (.ifCond .ge off, 3)) (kt : 0 ≤ x → sw_V p l e d s m args below meth c g A Q nL tgt lo rest st) (kf : ¬ 0 ≤ x → sw_V p l e d s m args below meth c g A Q nL (pc + 3) lo rest st) : sw_V p l e d s m args below meth c g A Q nL pc lo (.int x :: rest) st := fun H lcs ls hP hS hl => lv_if_ge X.1 X.2.1 dg ht (fun q => kt q H lcs ls hP hS hl) (fun q => kf q H lcs ls hP hS hl)
theorem sw_icmp_ge (X : sw_Ok p s m args c cc own nL g A) {x y : Int32} {off : Int} (tgt : Nat) (ht : (pc : Int) + off = (tgt : Int)) (dg : decode cc pc = .ok (.if_icmp .ge off, 3)) (kt : y ≤ x → sw_V p l e d s m args below meth c g A Q nL tgt lo rest st) (kf : ¬ y ≤ x → sw_V p l e d s m args below meth c g A Q nL (pc + 3) lo rest st) : sw_V p l e d s m args below meth c g A Q nL pc lo (.int y :: .int x :: rest) st := fun H lcs ls hP hS hl => lv_icmp_ge X.1 X.2.1 dg ht (fun q => kt q H lcs ls hP hS hl) (fun q => kf q H lcs ls hP hS hl)
theorem sw_if_gt (X : sw_Ok p s m args c cc own nL g A) {x : Int32} {off : Int} (tgt : Nat) (ht : (pc : Int) + off = (tgt : Int)) (dg : decode cc pc = .ok (.ifCond .gt off, 3)) (kt : 0 < x → sw_V p l e d s m args below meth c g A Q nL tgt lo rest st) (kf : ¬ 0 < x → sw_V p l e d s m args below meth c g A Q nL (pc + 3) lo rest st) : sw_V p l e d s m args below meth c g A Q nL pc lo (.int x :: rest) st := fun H lcs ls hP hS hl => lv_if_gt X.1 X.2.1 dg ht (fun q => kt q H lcs ls hP hS hl) (fun q => kf q H lcs ls hP hS hl)
theorem sw_icmp_gt (X : sw_Ok p s m args c cc own nL g A) {x y : Int32} {off : Int} (tgt : Nat) (ht : (pc : Int) + off = (tgt : Int)) (dg : decode cc pc = .ok (.if_icmp .gt off, 3)) (kt : y < x → sw_V p l e d s m args below meth c g A Q nL tgt lo rest st) (kf : ¬ y < x → sw_V p l e d s m args below meth c g A Q nL (pc + 3) lo rest st) : sw_V p l e d s m args below meth c g A Q nL pc lo (.int y :: .int x :: rest) st := fun H lcs ls hP hS hl => lv_icmp_gt X.1 X.2.1 dg ht (fun q => kt q H lcs ls hP hS hl) (fun q => kf q H lcs ls hP hS hl)
theorem sw_if_le (X : sw_Ok p s m args c cc own nL g A) {x : Int32} {off : Int} (tgt : Nat) (ht : (pc : Int) + off = (tgt : Int)) (dg : decode cc pc = .ok (.ifCond .le off, 3)) (kt : x ≤ 0 → sw_V p l e d s m args below meth c g A Q nL tgt lo rest st) (kf : ¬ x ≤ 0 → sw_V p l e d s m args below meth c g A Q nL (pc + 3) lo rest st) : sw_V p l e d s m args below meth c g A Q nL pc lo (.int x :: rest) st := fun H lcs ls hP hS hl => lv_if_le X.1 X.2.1 dg ht (fun q => kt q H lcs ls hP hS hl) (fun q => kf q H lcs ls hP hS hl)
theorem sw_icmp_le (X : sw_Ok p s m args c cc own nL g A) {x y : Int32} {off : Int} (tgt : Nat) (ht : (pc : Int) + off = (tgt : Int)) (dg : decode cc pc = .ok (.if_icmp .le off, 3)) (kt : x ≤ y → sw_V p l e d s m args below meth c g A Q nL tgt lo rest st) (kf : ¬ x ≤ y → sw_V p l e d s m args below meth c g A Q nL (pc + 3) lo rest st) : sw_V p l e d s m args below meth c g A Q nL pc lo (.int y :: .int x :: rest) st := fun H lcs ls hP hS hl => lv_icmp_le X.1 X.2.1 dg ht (fun q => kt q H lcs ls hP hS hl) (fun q => kf q H lcs ls hP hS hl)
theorem sw_tabIn (X : sw_Ok p s m args c cc own nL g A) {dflt a z : Int} {offs : Array Int} {len : Nat} {x k : Int32} {off : Int} (tgt : Nat) (hx : x = k) (h1 : ¬ k.toInt < a) (h2 : ¬ z < k.toInt) (ho : offs[(k.toInt - a).toNat]? = some off) (ht : (pc : Int) + off = (tgt : Int)) (dg : decode cc pc = .ok (.tableswitch dflt a z offs, len)) (kk : sw_V p l e d s m args below meth c g A Q nL tgt lo rest st) : sw_V p l e d s m args below meth c g A Q nL pc lo (.int x :: rest) st := fun H lcs ls hP hS hl => by
  subst hx
  exact lv_tableIn X.1 X.2.1 dg h1 h2 ho ht (kk H lcs ls hP hS hl)
theorem sw_tabOut (X : sw_Ok p s m args c cc own nL g A) {dflt a z : Int} {offs : Array Int} {len : Nat} {x : Int32} (tgt : Nat) (hx : x.toInt < a ∨ z < x.toInt) (ht : (pc : Int) + dflt = (tgt : Int)) (dg : decode cc pc = .ok (.tableswitch dflt a z offs, len)) (kk : sw_V p l e d s m args below meth c g A Q nL tgt lo rest st) : sw_V p l e d s m args below meth c g A Q nL pc lo (.int x :: rest) st := fun H lcs ls hP hS hl => lv_tableOut X.1 X.2.1 dg hx ht (kk H lcs ls hP hS hl)
theorem sw_sub {lo1 : List (Nat × Value)} (ks : List Nat) (h : lv_pick lo ks = lo1) (k : sw_V p l e d s m args below meth c g A Q nL pc lo1 rest st) : sw_V p l e d s m args below meth c g A Q nL pc lo rest st := fun H lcs ls hP hS hl => k H lcs ls hP hS (lv_sub hl ks h)
theorem sw_topi {x : Int32} (k : ∀ y : Int32, y = x → sw_V p l e d s m args below meth c g A Q nL pc lo (.int y :: rest) st) : sw_V p l e d s m args below meth c g A Q nL pc lo (.int x :: rest) st := k x rfl
theorem sw_topl {x : Int64} (k : ∀ y : Int64, y = x → sw_V p l e d s m args below meth c g A Q nL pc lo (.long y :: rest) st) : sw_V p l e d s m args below meth c g A Q nL pc lo (.long x :: rest) st := k x rfl

/-- what is known of a class: its number, name, fields, words -/
def sw_Cl (ci : Nat) (C : String) (T : u_T) (N : Nat) (ty : Nat → FieldType) : Prop := ci < 7 ∧ vwCl[ci]? = some (C, T, N) ∧ sw_nf ci = N ∧ (∀ w ∈ u_ws C T N, w ∈ sw_tbl) ∧ (∀ k, k < N → parseFieldDescriptor (T k).2.2.1 = some (ty k)) ∧ (∀ a, a < N → ∀ b, b < N → a ≠ b → (T a).2.1 ≠ (T b).2.1)
theorem sw_cl0 : sw_Cl 0 RX0 TX0 8 tyX0 := ⟨by decide, rfl, rfl, by decide +kernel, tyX0_ok, nmX0⟩
theorem sw_cl1 : sw_Cl 1 RX1 TX1 9 tyX1 := ⟨by decide, rfl, rfl, by decide +kernel, tyX1_ok, nmX1⟩
theorem sw_cl2 : sw_Cl 2 RX2 TX2 5 tyX2 := ⟨by decide, rfl, rfl, by decide +kernel, tyX2_ok, nmX2⟩
theorem sw_cl3 : sw_Cl 3 RX3 TX3 3 tyX3 := ⟨by decide, rfl, rfl, by decide +kernel, tyX3_ok, nmX3⟩
theorem sw_cl4 : sw_Cl 4 RX4 TX4 15 tyX4 := ⟨by decide, rfl, rfl, by decide +kernel, tyX4_ok, nmX4⟩
theorem sw_cl5 : sw_Cl 5 RX5 TX5 17 tyX5 := ⟨by decide, rfl, rfl, by decide +kernel, tyX5_ok, nmX5⟩
theorem sw_cl6 : sw_Cl 6 RX6 TX6 29 tyX6 := ⟨by decide, rfl, rfl, by decide +kernel, tyX6_ok, nmX6⟩
theorem sw_getI (X : sw_Ok p s m args c cc own nL g A) {o ci k N index : Nat} {C : String} {T : u_T} {ty : Nat → FieldType} (K : sw_Cl ci C T N ty) (ho : sw_kd o = ci) (hf : sw_fk ci k = 0) (hk : k < N) (hl0 : Cond.fieldLink own index (T k).1 (T k).2.1 (T k).2.2.1 ∈ sw_tbl) (dg : decode cc pc = .ok (.getfield index, 3)) (kk : sw_V p l e d s m args below meth c g A Q nL (pc + 3) lo (.int (st.1 o k) :: rest) st) : sw_V p l e d s m args below meth c g A Q nL pc lo (.ref (g.1 o) :: rest) st := fun H lcs ls hP hS hl => by
  obtain ⟨hc, hcl, hN, hin, -, -⟩ := K
  refine va_get X.1 X.2.1 X.2.2.2.2.1 hin X.2.2.2.1 X.2.2.2.2.2.1 hP o (fs := (List.range (sw_nf ci)).map (sw_fv g st o)) (by rw [sw_W_get g st (sw_ltk ho (by omega)), sw_cell_o g st ho hc]) hcl k hk (X.2.2.2.2.1 _ hl0) (fun _ h9 => h9) (v := .int (st.1 o k)) ?_ dg (kk H lcs ls hP hS hl)
  rw [List.getElem?_map, hN, List.getElem?_range hk]
  exact congrArg some (sw_fvI g st ho hf)
theorem sw_getL (X : sw_Ok p s m args c cc own nL g A) {o ci k N index : Nat} {C : String} {T : u_T} {ty : Nat → FieldType} (K : sw_Cl ci C T N ty) (ho : sw_kd o = ci) (hf : sw_fk ci k = 1) (hk : k < N) (hl0 : Cond.fieldLink own index (T k).1 (T k).2.1 (T k).2.2.1 ∈ sw_tbl) (dg : decode cc pc = .ok (.getfield index, 3)) (kk : sw_V p l e d s m args below meth c g A Q nL (pc + 3) lo (.long (st.2.1 o k) :: rest) st) : sw_V p l e d s m args below meth c g A Q nL pc lo (.ref (g.1 o) :: rest) st := fun H lcs ls hP hS hl => by
  obtain ⟨hc, hcl, hN, hin, -, -⟩ := K
  refine va_get X.1 X.2.1 X.2.2.2.2.1 hin X.2.2.2.1 X.2.2.2.2.2.1 hP o (fs := (List.range (sw_nf ci)).map (sw_fv g st o)) (by rw [sw_W_get g st (sw_ltk ho (by omega)), sw_cell_o g st ho hc]) hcl k hk (X.2.2.2.2.1 _ hl0) (fun _ h9 => h9) (v := .long (st.2.1 o k)) ?_ dg (kk H lcs ls hP hS hl)
  rw [List.getElem?_map, hN, List.getElem?_range hk]
  exact congrArg some (sw_fvL g st ho hf)
theorem sw_getR (X : sw_Ok p s m args c cc own nL g A) {o ci k N index : Nat} {C : String} {T : u_T} {ty : Nat → FieldType} (K : sw_Cl ci C T N ty) (ho : sw_kd o = ci) (hf : sw_fk ci k = 2) (hk : k < N) {o1 : Nat} (hr : sw_rf st o k = o1) (hl0 : Cond.fieldLink own index (T k).1 (T k).2.1 (T k).2.2.1 ∈ sw_tbl) (dg : decode cc pc = .ok (.getfield index, 3)) (kk : sw_V p l e d s m args below meth c g A Q nL (pc + 3) lo (.ref (g.1 o1) :: rest) st) : sw_V p l e d s m args below meth c g A Q nL pc lo (.ref (g.1 o) :: rest) st := fun H lcs ls hP hS hl => by
  obtain ⟨hc, hcl, hN, hin, -, -⟩ := K
  refine va_get X.1 X.2.1 X.2.2.2.2.1 hin X.2.2.2.1 X.2.2.2.2.2.1 hP o (fs := (List.range (sw_nf ci)).map (sw_fv g st o)) (by rw [sw_W_get g st (sw_ltk ho (by omega)), sw_cell_o g st ho hc]) hcl k hk (X.2.2.2.2.1 _ hl0) (fun _ h9 => h9) (v := .ref (g.1 o1)) ?_ dg (kk H lcs ls hP hS hl)
  rw [List.getElem?_map, hN, List.getElem?_range hk]
  exact congrArg some ((sw_fvR g st ho hf).trans (by rw [hr]))
theorem sw_putI (X : sw_Ok p s m args c cc own nL g A) {o ci k N index : Nat} {C : String} {T : u_T} {ty : Nat → FieldType} {v : Int32} (K : sw_Cl ci C T N ty) (ho : sw_kd o = ci) (hf : sw_fk ci k = 0) (hk : k < N) (ht : ty k = .int) (hfin : (T k).2.2.2 = false) (hl0 : Cond.fieldLink own index (T k).1 (T k).2.1 (T k).2.2.1 ∈ sw_tbl) (dg : decode cc pc = .ok (.putfield index, 3)) (kk : ∀ st1, st1 = (sw_setC st o k v) → sw_V p l e d s m args below meth c g A Q nL (pc + 3) lo rest st1) : sw_V p l e d s m args below meth c g A Q nL pc lo (.int v :: .ref (g.1 o) :: rest) st := fun H lcs ls hP hS hl => by
  obtain ⟨hc, hcl, hN, hin, hty, hnm⟩ := K
  refine va_put X.1 X.2.1 X.2.2.2.2.1 hin ty hty hnm X.2.2.2.1 X.2.2.2.2.2.1 hP (sw_W_D g A X.2.2.2.2.2.2.1 X.2.2.2.2.2.2.2.1 st) hS o (fs := (List.range (sw_nf ci)).map (sw_fv g st o)) (by rw [sw_W_get g st (sw_ltk ho (by omega)), sw_cell_o g st ho hc]) hcl k hk (X.2.2.2.2.1 _ hl0) (fun _ h9 => h9) hfin (ty := .int) (by rw [← ht]; exact hty k hk) rfl rfl (by rw [List.length_map, List.length_range, hN]; exact hk) dg (fun H1 lcs1 hP1 hD1 hS1 => ?_)
  rw [sw_set_i g st ho hc hf] at hP1
  exact kk _ rfl H1 lcs1 ls hP1 hS1 hl
theorem sw_putL (X : sw_Ok p s m args c cc own nL g A) {o ci k N index : Nat} {C : String} {T : u_T} {ty : Nat → FieldType} {v : Int64} (K : sw_Cl ci C T N ty) (ho : sw_kd o = ci) (hf : sw_fk ci k = 1) (hk : k < N) (ht : ty k = .long) (hfin : (T k).2.2.2 = false) (hl0 : Cond.fieldLink own index (T k).1 (T k).2.1 (T k).2.2.1 ∈ sw_tbl) (dg : decode cc pc = .ok (.putfield index, 3)) (kk : ∀ st1, st1 = (sw_setJ st o k v) → sw_V p l e d s m args below meth c g A Q nL (pc + 3) lo rest st1) : sw_V p l e d s m args below meth c g A Q nL pc lo (.long v :: .ref (g.1 o) :: rest) st := fun H lcs ls hP hS hl => by
  obtain ⟨hc, hcl, hN, hin, hty, hnm⟩ := K
  refine va_put X.1 X.2.1 X.2.2.2.2.1 hin ty hty hnm X.2.2.2.1 X.2.2.2.2.2.1 hP (sw_W_D g A X.2.2.2.2.2.2.1 X.2.2.2.2.2.2.2.1 st) hS o (fs := (List.range (sw_nf ci)).map (sw_fv g st o)) (by rw [sw_W_get g st (sw_ltk ho (by omega)), sw_cell_o g st ho hc]) hcl k hk (X.2.2.2.2.1 _ hl0) (fun _ h9 => h9) hfin (ty := .long) (by rw [← ht]; exact hty k hk) rfl rfl (by rw [List.length_map, List.length_range, hN]; exact hk) dg (fun H1 lcs1 hP1 hD1 hS1 => ?_)
  rw [sw_set_l g st ho hc hf] at hP1
  exact kk _ rfl H1 lcs1 ls hP1 hS1 hl
theorem sw_putB (X : sw_Ok p s m args c cc own nL g A) {b index : Nat} (hl0 : Cond.fieldLink own index (TX3 0).1 (TX3 0).2.1 (TX3 0).2.2.1 ∈ sw_tbl) (dg : decode cc pc = .ok (.putfield index, 3)) (kk : ∀ st1, st1 = (sw_setB st b) → sw_V p l e d s m args below meth c g A Q nL (pc + 3) lo rest st1) : sw_V p l e d s m args below meth c g A Q nL pc lo (.ref (g.1 b) :: .ref (g.1 52) :: rest) st := fun H lcs ls hP hS hl => by
  obtain ⟨hc, hcl, hN, hin, hty, hnm⟩ := sw_cl3
  refine va_put X.1 X.2.1 X.2.2.2.2.1 hin tyX3 hty hnm X.2.2.2.1 X.2.2.2.2.2.1 hP (sw_W_D g A X.2.2.2.2.2.2.1 X.2.2.2.2.2.2.2.1 st) hS 52 (fs := (List.range (sw_nf 3)).map (sw_fv g st 52)) (by rw [sw_W_get g st (by decide), sw_cell_o g st (show sw_kd 52 = 3 from rfl) hc]) hcl 0 (by decide) (X.2.2.2.2.1 _ hl0) (fun _ h9 => h9) rfl (ty := .array .byte) (by decide +kernel) rfl rfl (by rw [List.length_map, List.length_range]; decide) dg (fun H1 lcs1 hP1 hD1 hS1 => ?_)
  rw [sw_set_b g st b] at hP1
  exact kk _ rfl H1 lcs1 ls hP1 hS1 hl
theorem sw_iald (X : sw_Ok p s m args c cc own nL g A) {a n : Nat} {i : Int32} (ha : sw_kd a = 8) (hn : sw_ln a = n) (hin : vp_in i n) (dg : decode cc pc = .ok (.iaload, 1)) (kk : sw_V p l e d s m args below meth c g A Q nL (pc + 1) lo (.int (st.1 a i.toNatClampNeg) :: rest) st) : sw_V p l e d s m args below meth c g A Q nL pc lo (.int i :: .ref (g.1 a) :: rest) st := fun H lcs ls hP hS hl =>
  va_iald X.1 X.2.1 X.2.2.2.2.2.1 hP a 1 (by rw [sw_W_get g st (sw_ltk ha (by decide)), sw_cell_a g st ha hn (by decide) (by decide)]) rfl hin dg (kk H lcs ls hP hS hl)
theorem sw_bald (X : sw_Ok p s m args c cc own nL g A) {a n : Nat} {i : Int32} (ha : sw_kd a = 7) (hn : sw_ln a = n) (hin : vp_in i n) (dg : decode cc pc = .ok (.baload, 1)) (kk : sw_V p l e d s m args below meth c g A Q nL (pc + 1) lo (.int (st.1 a i.toNatClampNeg) :: rest) st) : sw_V p l e d s m args below meth c g A Q nL pc lo (.int i :: .ref (g.1 a) :: rest) st := fun H lcs ls hP hS hl =>
  va_bald X.1 X.2.1 X.2.2.2.2.2.1 hP a 0 (by rw [sw_W_get g st (sw_ltk ha (by decide)), sw_cell_a g st ha hn (by decide) (by decide)]) rfl hin dg (kk H lcs ls hP hS hl)
theorem sw_zald (X : sw_Ok p s m args c cc own nL g A) {a n : Nat} {i : Int32} (ha : sw_kd a = 9) (hn : sw_ln a = n) (hin : vp_in i n) (dg : decode cc pc = .ok (.baload, 1)) (kk : sw_V p l e d s m args below meth c g A Q nL (pc + 1) lo (.int (st.1 a i.toNatClampNeg) :: rest) st) : sw_V p l e d s m args below meth c g A Q nL pc lo (.int i :: .ref (g.1 a) :: rest) st := fun H lcs ls hP hS hl =>
  va_zald X.1 X.2.1 X.2.2.2.2.2.1 hP a 2 (by rw [sw_W_get g st (sw_ltk ha (by decide)), sw_cell_a g st ha hn (by decide) (by decide)]) rfl hin dg (kk H lcs ls hP hS hl)
theorem sw_iast (X : sw_Ok p s m args c cc own nL g A) {a n : Nat} {i x : Int32} (ha : sw_kd a = 8) (hn : sw_ln a = n) (hin : vp_in i n) (dg : decode cc pc = .ok (.iastore, 1)) (kk : ∀ st1, st1 = (sw_setC st a i.toNatClampNeg x) → sw_V p l e d s m args below meth c g A Q nL (pc + 1) lo rest st1) : sw_V p l e d s m args below meth c g A Q nL pc lo (.int x :: .int i :: .ref (g.1 a) :: rest) st := fun H lcs ls hP hS hl => by
  refine va_iast X.1 X.2.1 X.2.2.2.2.2.1 hP (sw_W_D g A X.2.2.2.2.2.2.1 X.2.2.2.2.2.2.2.1 st) hS a 1 (by rw [sw_W_get g st (sw_ltk ha (by decide)), sw_cell_a g st ha hn (by decide) (by decide)]) rfl hin dg (fun H1 lcs1 hP1 hD1 hS1 => ?_)
  rw [sw_set_a g st ha hn (by decide) (by decide)] at hP1
  exact kk _ rfl H1 lcs1 ls hP1 hS1 hl
theorem sw_bast (X : sw_Ok p s m args c cc own nL g A) {a n : Nat} {i x : Int32} (ha : sw_kd a = 7) (hn : sw_ln a = n) (hin : vp_in i n) (dg : decode cc pc = .ok (.bastore, 1)) (kk : ∀ st1, st1 = (sw_setC st a i.toNatClampNeg (vp_nar .byte x)) → sw_V p l e d s m args below meth c g A Q nL (pc + 1) lo rest st1) : sw_V p l e d s m args below meth c g A Q nL pc lo (.int x :: .int i :: .ref (g.1 a) :: rest) st := fun H lcs ls hP hS hl => by
  refine va_bast X.1 X.2.1 X.2.2.2.2.2.1 hP (sw_W_D g A X.2.2.2.2.2.2.1 X.2.2.2.2.2.2.2.1 st) hS a 0 (by rw [sw_W_get g st (sw_ltk ha (by decide)), sw_cell_a g st ha hn (by decide) (by decide)]) rfl hin dg (fun H1 lcs1 hP1 hD1 hS1 => ?_)
  rw [sw_set_a g st ha hn (by decide) (by decide)] at hP1
  exact kk _ rfl H1 lcs1 ls hP1 hS1 hl
theorem sw_zast (X : sw_Ok p s m args c cc own nL g A) {a n : Nat} {i x : Int32} (ha : sw_kd a = 9) (hn : sw_ln a = n) (hin : vp_in i n) (dg : decode cc pc = .ok (.bastore, 1)) (kk : ∀ st1, st1 = (sw_setC st a i.toNatClampNeg (vp_nar .boolean x)) → sw_V p l e d s m args below meth c g A Q nL (pc + 1) lo rest st1) : sw_V p l e d s m args below meth c g A Q nL pc lo (.int x :: .int i :: .ref (g.1 a) :: rest) st := fun H lcs ls hP hS hl => by
  refine va_zast X.1 X.2.1 X.2.2.2.2.2.1 hP (sw_W_D g A X.2.2.2.2.2.2.1 X.2.2.2.2.2.2.2.1 st) hS a 2 (by rw [sw_W_get g st (sw_ltk ha (by decide)), sw_cell_a g st ha hn (by decide) (by decide)]) rfl hin dg (fun H1 lcs1 hP1 hD1 hS1 => ?_)
  rw [sw_set_a g st ha hn (by decide) (by decide)] at hP1
  exact kk _ rfl H1 lcs1 ls hP1 hS1 hl
theorem sw_aaldT (X : sw_Ok p s m args c cc own nL g A) {a n : Nat} {i : Int32} {a1 : Nat} (ha : sw_kd a = 10) (hn : sw_ln a = n) (hin : vp_in i n) (hr : sw_ra a i.toNatClampNeg = a1) (dg : decode cc pc = .ok (.aaload, 1)) (kk : sw_V p l e d s m args below meth c g A Q nL (pc + 1) lo (.ref (g.1 a1) :: rest) st) : sw_V p l e d s m args below meth c g A Q nL pc lo (.int i :: .ref (g.1 a) :: rest) st := fun H lcs ls hP hS hl => by
  subst hr
  have hlt : i.toNatClampNeg < n := Nat.not_le.mp fun q => hin (Or.inr q)
  have hh := hP a _ (by rw [sw_W_get g st (sw_ltk ha (by decide)), sw_cell_q g st ha hn (by decide)])
  exact W.aald (v := .ref (g.1 (sw_ra a i.toNatClampNeg))) (ty := .object "StrangersWind$Town") X.1 X.2.1 hh ((X.2.2.2.2.2.1.2 3 _ rfl).1 n (fun j => va_rf (some (g.1 (sw_ra a j))))) rfl (fun q => by cases q) (by show ¬ (i < 0 ∨ (arrV _ _ _).slots.size ≤ _); rw [arrV_size]; exact hin) (by show (arrV _ _ _).slots[_]? = _; rw [arrV_read _ _ hlt]; rfl) rfl rfl dg (kk H lcs ls hP hS hl)
theorem sw_aaldB (X : sw_Ok p s m args c cc own nL g A) {a n : Nat} {i : Int32} {a1 : Nat} (ha : sw_kd a = 11) (hn : sw_ln a = n) (hin : vp_in i n) (hr : sw_ra a i.toNatClampNeg = a1) (dg : decode cc pc = .ok (.aaload, 1)) (kk : sw_V p l e d s m args below meth c g A Q nL (pc + 1) lo (.ref (g.1 a1) :: rest) st) : sw_V p l e d s m args below meth c g A Q nL pc lo (.int i :: .ref (g.1 a) :: rest) st := fun H lcs ls hP hS hl => by
  subst hr
  have hlt : i.toNatClampNeg < n := Nat.not_le.mp fun q => hin (Or.inr q)
  have hh := hP a _ (by rw [sw_W_get g st (sw_ltk ha (by decide)), sw_cell_q g st ha hn (by decide)])
  exact W.aald (v := .ref (g.1 (sw_ra a i.toNatClampNeg))) (ty := .array .byte) X.1 X.2.1 hh ((X.2.2.2.2.2.1.2 4 _ rfl).1 n (fun j => va_rf (some (g.1 (sw_ra a j))))) rfl (fun q => by cases q) (by show ¬ (i < 0 ∨ (arrV _ _ _).slots.size ≤ _); rw [arrV_size]; exact hin) (by show (arrV _ _ _).slots[_]? = _; rw [arrV_read _ _ hlt]; rfl) rfl rfl dg (kk H lcs ls hP hS hl)
theorem sw_aaldI (X : sw_Ok p s m args c cc own nL g A) {a n : Nat} {i : Int32} {a1 : Nat} (ha : sw_kd a = 12) (hn : sw_ln a = n) (hin : vp_in i n) (hr : sw_ra a i.toNatClampNeg = a1) (dg : decode cc pc = .ok (.aaload, 1)) (kk : sw_V p l e d s m args below meth c g A Q nL (pc + 1) lo (.ref (g.1 a1) :: rest) st) : sw_V p l e d s m args below meth c g A Q nL pc lo (.int i :: .ref (g.1 a) :: rest) st := fun H lcs ls hP hS hl => by
  subst hr
  have hlt : i.toNatClampNeg < n := Nat.not_le.mp fun q => hin (Or.inr q)
  have hh := hP a _ (by rw [sw_W_get g st (sw_ltk ha (by decide)), sw_cell_q g st ha hn (by decide)])
  exact W.aald (v := .ref (g.1 (sw_ra a i.toNatClampNeg))) (ty := .array .int) X.1 X.2.1 hh ((X.2.2.2.2.2.1.2 5 _ rfl).1 n (fun j => va_rf (some (g.1 (sw_ra a j))))) rfl (fun q => by cases q) (by show ¬ (i < 0 ∨ (arrV _ _ _).slots.size ≤ _); rw [arrV_size]; exact hin) (by show (arrV _ _ _).slots[_]? = _; rw [arrV_read _ _ hlt]; rfl) rfl rfl dg (kk H lcs ls hP hS hl)
theorem sw_alenB (X : sw_Ok p s m args c cc own nL g A) {a : Nat} (ha : sw_kd a = 7) (dg : decode cc pc = .ok (.arraylength, 1)) (kk : sw_V p l e d s m args below meth c g A Q nL (pc + 1) lo (.int (nI (sw_ln a)) :: rest) st) : sw_V p l e d s m args below meth c g A Q nL pc lo (.ref (g.1 a) :: rest) st := fun H lcs ls hP hS hl =>
  va_alen X.1 X.2.1 X.2.2.2.2.2.1 hP a 0 (x := (sw_ln a, .inl (st.1 a))) (by rw [sw_W_get g st (sw_ltk ha (by decide)), sw_cell_a g st ha rfl (by decide) (by decide)]) rfl rfl dg (kk H lcs ls hP hS hl)
theorem sw_alenI (X : sw_Ok p s m args c cc own nL g A) {a : Nat} (ha : sw_kd a = 8) (dg : decode cc pc = .ok (.arraylength, 1)) (kk : sw_V p l e d s m args below meth c g A Q nL (pc + 1) lo (.int (nI (sw_ln a)) :: rest) st) : sw_V p l e d s m args below meth c g A Q nL pc lo (.ref (g.1 a) :: rest) st := fun H lcs ls hP hS hl =>
  va_alen X.1 X.2.1 X.2.2.2.2.2.1 hP a 1 (x := (sw_ln a, .inl (st.1 a))) (by rw [sw_W_get g st (sw_ltk ha (by decide)), sw_cell_a g st ha rfl (by decide) (by decide)]) rfl rfl dg (kk H lcs ls hP hS hl)
theorem sw_alenZ (X : sw_Ok p s m args c cc own nL g A) {a : Nat} (ha : sw_kd a = 9) (dg : decode cc pc = .ok (.arraylength, 1)) (kk : sw_V p l e d s m args below meth c g A Q nL (pc + 1) lo (.int (nI (sw_ln a)) :: rest) st) : sw_V p l e d s m args below meth c g A Q nL pc lo (.ref (g.1 a) :: rest) st := fun H lcs ls hP hS hl =>
  va_alen X.1 X.2.1 X.2.2.2.2.2.1 hP a 2 (x := (sw_ln a, .inl (st.1 a))) (by rw [sw_W_get g st (sw_ltk ha (by decide)), sw_cell_a g st ha rfl (by decide) (by decide)]) rfl rfl dg (kk H lcs ls hP hS hl)
end SWR
end
section
def sw_B (g : sw_G) (st : sw_St) (t : State) : Prop := va_P g.2.1 vwCl (sw_W g st) t.heap ∧ va_K g.2.1 vwCl (sw_tys g) t
def sw_Pre (g : sw_G) (st : sw_St) (sz : Nat) : State → Prop := fun U => U.heap.size = sz ∧ sw_B g st U
def sw_MV (y : MethodName) (bytes : ByteArray) (maxL : Nat) (ret : Option FieldType) (n : Nat) (C : String) : Prop := Cond.code y bytes maxL ret ∈ sw_tbl ∧ Cond.instanceMethod y ∈ sw_tbl ∧ Cond.selects C y y ∈ sw_tbl ∧ Cond.initialized y.cls ∈ sw_tbl ∧ (y.cls ≠ "java/lang/invoke/MethodHandle" ∧ y.cls ≠ "java/lang/invoke/VarHandle" ∧ (parseMethodDescriptor y.desc).map (fun d => d.parameters.length) = some n) ∧ maxL ≤ 45
def sw_MS (y : MethodName) (bytes : ByteArray) (maxL : Nat) (ret : Option FieldType) (n : Nat) : Prop := Cond.code y bytes maxL ret ∈ sw_tbl ∧ Cond.static y ∈ sw_tbl ∧ Cond.initialized y.cls ∈ sw_tbl ∧ (y.cls ≠ "java/lang/invoke/MethodHandle" ∧ y.cls ≠ "java/lang/invoke/VarHandle" ∧ (parseMethodDescriptor y.desc).map (fun d => d.parameters.length) = some n) ∧ maxL ≤ 45
theorem sw_blind (g : sw_G) (st : sw_St) (sz : Nat) (av : List Value) : FrameBlind (va_Pc av (sw_Pre g st sz)) := fun a U f mk q => by
  obtain ⟨q0, q1, qP, qK⟩ := q
  exact ⟨q0, q1, qP, va_K.moved (u := U) (U := U.calling f mk a) (Vm.Alike.refl U.vm) qK⟩

def sw_CI (y : MethodName) (cw : Cond) (d : Nat) (av : sw_G → List Value) (st : sw_St) (r : Int32) (st1 : sw_St) : Prop := ∀ (l : Launch) (g : sw_G) (sz : Nat), sw_Inj g → Met l y (cw :: sw_tbl) (sw_rm d) (va_Pc (av g) (sw_Pre g st sz)) (va_Qi (fun (r' : Int32) (s' : sw_St) => r' = r ∧ s' = st1) (sw_B g) (sw_A g sz)) 0 0 (sw_A g sz)
def sw_QI (below : List Frame) (g : sw_G) (args : Array Value) (s : State) (r : Int32) (st1 : sw_St) : State → Prop := MQ below (va_Qi (fun (r' : Int32) (s' : sw_St) => r' = r ∧ s' = st1) (sw_B g) (sw_A g s.heap.size)) args s 0 0 (sw_A g s.heap.size)
theorem sw_entI {y : MethodName} {cc : ByteArray} {maxL d : Nat} {ret : Option FieldType} {av : sw_G → List Value} {st st1 : sw_St} {r : Int32} (own : String) (lo : sw_G → List (Nat × Value)) (hy : plainName y.cls = true) (ho : y.cls = own) (hlen : ∀ g, (lg_sl (av g)).length ≤ maxL) (hlo : ∀ g, lv_args 0 (av g) = lo g)
    (body : ∀ (p : Program) (l : Launch) (e : Env) (s : State) (m : MethodId) (args : Array Value) (below : List Frame) (meth : Method) (c : Code) (g : sw_G), sw_Ok p s m args c cc own maxL g (sw_A g s.heap.size) → meth.sig.returnType = ret → meth.locks = false → sw_V p l e d s m args below meth c g (sw_A g s.heap.size) (sw_QI below g args s r st1) maxL 0 (lo g) [] st) : sw_CI y (.code y cc maxL ret) d av st r st1 := by
  intro l g sz hinj
  refine Met.ofW (cc := cc) (maxL := maxL) (ret := ret) hy rfl ?_
  intro p e s m args below meth c s₁ B hml hv
  obtain ⟨rfl, hsz, hP, hK⟩ := hv
  subst hsz
  have hts := atoms_spec (ws := Cond.code y cc maxL ret :: sw_tbl) B.pre
  have hown : s.vm.findClass y.cls = some m.cls := findClass_of_methodNamed B.named
  rw [ho] at hown
  have hl := lv_entry (av g) (n := maxL) (hlen g)
  rw [lg_entry_eq]
  rw [hlo g] at hl
  exact body p l e s m _ below meth c g ⟨B.exec, B.bytes, hml, hown, fun w hw => hts w (List.mem_cons_of_mem _ hw), hK, hinj, fun i hi => Or.inl ⟨i, hi, rfl⟩, fun q h => Or.inr h⟩ B.returns B.notSynchronized s.heap [] _ hP va_S.rf hl
def sw_CL (y : MethodName) (cw : Cond) (d : Nat) (av : sw_G → List Value) (st : sw_St) (r : Int64) (st1 : sw_St) : Prop := ∀ (l : Launch) (g : sw_G) (sz : Nat), sw_Inj g → Met l y (cw :: sw_tbl) (sw_rm d) (va_Pc (av g) (sw_Pre g st sz)) (va_Ql (fun (r' : Int64) (s' : sw_St) => r' = r ∧ s' = st1) (sw_B g) (sw_A g sz)) 0 0 (sw_A g sz)
def sw_QL (below : List Frame) (g : sw_G) (args : Array Value) (s : State) (r : Int64) (st1 : sw_St) : State → Prop := MQ below (va_Ql (fun (r' : Int64) (s' : sw_St) => r' = r ∧ s' = st1) (sw_B g) (sw_A g s.heap.size)) args s 0 0 (sw_A g s.heap.size)
theorem sw_entL {y : MethodName} {cc : ByteArray} {maxL d : Nat} {ret : Option FieldType} {av : sw_G → List Value} {st st1 : sw_St} {r : Int64} (own : String) (lo : sw_G → List (Nat × Value)) (hy : plainName y.cls = true) (ho : y.cls = own) (hlen : ∀ g, (lg_sl (av g)).length ≤ maxL) (hlo : ∀ g, lv_args 0 (av g) = lo g)
    (body : ∀ (p : Program) (l : Launch) (e : Env) (s : State) (m : MethodId) (args : Array Value) (below : List Frame) (meth : Method) (c : Code) (g : sw_G), sw_Ok p s m args c cc own maxL g (sw_A g s.heap.size) → meth.sig.returnType = ret → meth.locks = false → sw_V p l e d s m args below meth c g (sw_A g s.heap.size) (sw_QL below g args s r st1) maxL 0 (lo g) [] st) : sw_CL y (.code y cc maxL ret) d av st r st1 := by
  intro l g sz hinj
  refine Met.ofW (cc := cc) (maxL := maxL) (ret := ret) hy rfl ?_
  intro p e s m args below meth c s₁ B hml hv
  obtain ⟨rfl, hsz, hP, hK⟩ := hv
  subst hsz
  have hts := atoms_spec (ws := Cond.code y cc maxL ret :: sw_tbl) B.pre
  have hown : s.vm.findClass y.cls = some m.cls := findClass_of_methodNamed B.named
  rw [ho] at hown
  have hl := lv_entry (av g) (n := maxL) (hlen g)
  rw [lg_entry_eq]
  rw [hlo g] at hl
  exact body p l e s m _ below meth c g ⟨B.exec, B.bytes, hml, hown, fun w hw => hts w (List.mem_cons_of_mem _ hw), hK, hinj, fun i hi => Or.inl ⟨i, hi, rfl⟩, fun q h => Or.inr h⟩ B.returns B.notSynchronized s.heap [] _ hP va_S.rf hl
def sw_CV (y : MethodName) (cw : Cond) (d : Nat) (av : sw_G → List Value) (st : sw_St) (st1 : sw_St) : Prop := ∀ (l : Launch) (g : sw_G) (sz : Nat), sw_Inj g → Met l y (cw :: sw_tbl) (sw_rm d) (va_Pc (av g) (sw_Pre g st sz)) (va_Qv (fun (s' : sw_St) => s' = st1) (sw_B g) (sw_A g sz)) 0 0 (sw_A g sz)
def sw_QV (below : List Frame) (g : sw_G) (args : Array Value) (s : State) (st1 : sw_St) : State → Prop := MQ below (va_Qv (fun (s' : sw_St) => s' = st1) (sw_B g) (sw_A g s.heap.size)) args s 0 0 (sw_A g s.heap.size)
theorem sw_entV {y : MethodName} {cc : ByteArray} {maxL d : Nat} {ret : Option FieldType} {av : sw_G → List Value} {st st1 : sw_St} (own : String) (lo : sw_G → List (Nat × Value)) (hy : plainName y.cls = true) (ho : y.cls = own) (hlen : ∀ g, (lg_sl (av g)).length ≤ maxL) (hlo : ∀ g, lv_args 0 (av g) = lo g)
    (body : ∀ (p : Program) (l : Launch) (e : Env) (s : State) (m : MethodId) (args : Array Value) (below : List Frame) (meth : Method) (c : Code) (g : sw_G), sw_Ok p s m args c cc own maxL g (sw_A g s.heap.size) → meth.sig.returnType = ret → meth.locks = false → sw_V p l e d s m args below meth c g (sw_A g s.heap.size) (sw_QV below g args s  st1) maxL 0 (lo g) [] st) : sw_CV y (.code y cc maxL ret) d av st  st1 := by
  intro l g sz hinj
  refine Met.ofW (cc := cc) (maxL := maxL) (ret := ret) hy rfl ?_
  intro p e s m args below meth c s₁ B hml hv
  obtain ⟨rfl, hsz, hP, hK⟩ := hv
  subst hsz
  have hts := atoms_spec (ws := Cond.code y cc maxL ret :: sw_tbl) B.pre
  have hown : s.vm.findClass y.cls = some m.cls := findClass_of_methodNamed B.named
  rw [ho] at hown
  have hl := lv_entry (av g) (n := maxL) (hlen g)
  rw [lg_entry_eq]
  rw [hlo g] at hl
  exact body p l e s m _ below meth c g ⟨B.exec, B.bytes, hml, hown, fun w hw => hts w (List.mem_cons_of_mem _ hw), hK, hinj, fun i hi => Or.inl ⟨i, hi, rfl⟩, fun q h => Or.inr h⟩ B.returns B.notSynchronized s.heap [] _ hP va_S.rf hl
section SWC
variable {p : Program} {l : Launch} {e : Env} {d : Nat} {s : State} {m : MethodId} {args : Array Value} {below : List Frame} {meth : Method} {c : Code} {cc : ByteArray} {own : String} {nL : Nat} {g : sw_G} {A : Nat → Prop} {Q : State → Prop} {pc : Nat} {lo : List (Nat × Value)} {rest : List Value} {st : sw_St}
theorem sw_iret (X : sw_Ok p s m args c cc own nL g (sw_A g s.heap.size)) {v r : Int32} {st1 : sw_St} (hr : meth.sig.returnType = some .int) (hlk : meth.locks = false) (dg : decode cc pc = .ok (.ireturn, 1)) (h : some (v, st) = some (r, st1)) : sw_V p l e d s m args below meth c g (sw_A g s.heap.size) (sw_QI below g args s r st1) nL pc lo [.int v] st := fun H lcs ls hP hS hl => by
  cases h
  exact W.iret X.1 X.2.1 hr (fun t ht hW => ⟨⟨_, _, rfl, ⟨rfl, rfl⟩, by rw [ht]; exact hP, va_K.moved hW.alike X.2.2.2.2.2.1⟩, hS.F ht⟩) hS.2.2 dg hlk
theorem sw_zret (X : sw_Ok p s m args c cc own nL g (sw_A g s.heap.size)) {v r : Int32} {st1 : sw_St} (hr : meth.sig.returnType = some .boolean) (hlk : meth.locks = false) (hv : v = 0 ∨ v = 1) (dg : decode cc pc = .ok (.ireturn, 1)) (h : some (v, st) = some (r, st1)) : sw_V p l e d s m args below meth c g (sw_A g s.heap.size) (sw_QI below g args s r st1) nL pc lo [.int v] st := fun H lcs ls hP hS hl => by
  cases h
  exact W.zret X.1 X.2.1 hr (by rcases hv with rfl | rfl <;> rfl) (fun t ht hW => ⟨⟨_, _, rfl, ⟨rfl, rfl⟩, by rw [ht]; exact hP, va_K.moved hW.alike X.2.2.2.2.2.1⟩, hS.F ht⟩) hS.2.2 dg hlk
theorem sw_lret (X : sw_Ok p s m args c cc own nL g (sw_A g s.heap.size)) {v r : Int64} {st1 : sw_St} (hr : meth.sig.returnType = some .long) (hlk : meth.locks = false) (dg : decode cc pc = .ok (.lreturn, 1)) (h : some (v, st) = some (r, st1)) : sw_V p l e d s m args below meth c g (sw_A g s.heap.size) (sw_QL below g args s r st1) nL pc lo [.long v] st := fun H lcs ls hP hS hl => by
  cases h
  exact W.lret X.1 X.2.1 hr (fun t ht hW => ⟨⟨_, _, rfl, ⟨rfl, rfl⟩, by rw [ht]; exact hP, va_K.moved hW.alike X.2.2.2.2.2.1⟩, hS.F ht⟩) hS.2.2 dg hlk
theorem sw_vret (X : sw_Ok p s m args c cc own nL g (sw_A g s.heap.size)) {st1 : sw_St} (hr : meth.sig.returnType = none) (hlk : meth.locks = false) (dg : decode cc pc = .ok (.return_, 1)) (h : some ((), st) = some ((), st1)) : sw_V p l e d s m args below meth c g (sw_A g s.heap.size) (sw_QV below g args s st1) nL pc lo [] st := fun H lcs ls hP hS hl => by
  cases h
  exact W.vret X.1 X.2.1 hr (fun t ht hW => ⟨⟨_, rfl, rfl, by rw [ht]; exact hP, va_K.moved hW.alike X.2.2.2.2.2.1⟩, hS.F ht⟩) hS.2.2 dg hlk
theorem sw_Asub (X : sw_Ok p s m args c cc own nL g A) {H : Heap} {lcs : List Loc} (hS : va_S A s.heap H lcs) : ∀ q, sw_A g H.size q → A q := fun q h => by
  rcases h with ⟨i, hi, rfl⟩ | h
  · exact X.2.2.2.2.2.2.2.1 i hi
  · exact X.2.2.2.2.2.2.2.2 q (Nat.le_trans hS.1 h)
theorem sw_callVI (X : sw_Ok p s m args c cc own nL g A) {y : MethodName} {bytes : ByteArray} {maxL n index o ci N d1 : Nat} {ret : Option FieldType} {C : String} {T : u_T} {ty : Nat → FieldType} {As : sw_G → List Value} {r : Int32} {st1 : sw_St} {stk : List Value} (K : sw_Cl ci C T N ty) (ho : sw_kd o = ci) (M : sw_MV y bytes maxL ret n C) (hd : d1 + 1 ≤ d) (hc : sw_CI y (.code y bytes maxL ret) d1 (fun g => .ref (g.1 o) :: As g) st r st1) (hn : (As g).length = n) (hstk : stk = (As g).reverse ++ .ref (g.1 o) :: rest) (hrest : (rest.map fun v => v.category).sum ≤ 8) (hl0 : Cond.methodLink own index y ∈ sw_tbl) (dg : decode cc pc = .ok (.invokevirtual index, 3)) (k : sw_V p l e d s m args below meth c g A Q nL (pc + 3) lo (.int r :: rest) st1) : sw_V p l e d s m args below meth c g A Q nL pc lo stk st := fun H lcs ls hP hS hl => by
  obtain ⟨hci, hcl, -⟩ := K
  obtain ⟨m1, m2, m3, m4, m5, m6⟩ := M
  have hts := X.2.2.2.2.1
  have hK := X.2.2.2.2.2.1
  have hg : GoodIn sw_tbl (Cond.code y bytes maxL ret :: sw_tbl) := sw_good m1
  have hcw : CallW (sw_rm d) s args own C index y bytes maxL ret (Cond.code y bytes maxL ret :: sw_tbl) (sw_rm d1) 0 0 n := ⟨callB_of n hts hg rfl rfl rfl (hts _ m4) (hts _ hl0) m5 ⟨hd, by show 8 + (maxL + 11) + 64 * d1 ≤ 64 * d; omega⟩, hts _ m2, hts _ m3⟩
  refine va_calli (va_runV (As := As g) (rest := rest) ⟨X.1, X.2.1, X.2.2.1, X.2.2.2.1, hts⟩ (hc l g H.size X.2.2.2.2.2.2.1) hcw ⟨sw_blind g st H.size _, va_recv hK hP hcl (by rw [sw_W_get g st (sw_ltk ho (by omega)), sw_cell_o g st ho hci]), fun U hU hW => ⟨rfl, by rw [hU], by rw [hU]; exact hP, va_K.moved hW.alike hK⟩⟩ rfl hn hl.1 hstk (lv_room hrest) dg ⟨Nat.le_refl _, Nat.le_refl _⟩) hS (fun q _ h => sw_Asub X hS q h) (sw_Asub X hS) (fun r_ u t H1 lcs1 ht hvm hw hB hz1 hk1 hS1 => ?_)
  obtain ⟨rfl, rfl⟩ := hw
  exact k H1 lcs1 ls (by rw [← ht]; exact hB.1) hS1 hl
theorem sw_callSI (X : sw_Ok p s m args c cc own nL g A) {y : MethodName} {bytes : ByteArray} {maxL n index d1 : Nat} {ret : Option FieldType} {As : sw_G → List Value} {r : Int32} {st1 : sw_St} {stk : List Value} (M : sw_MS y bytes maxL ret n) (hd : d1 + 1 ≤ d) (hc : sw_CI y (.code y bytes maxL ret) d1 As st r st1) (hn : (As g).length = n) (hstk : stk = (As g).reverse ++ rest) (hrest : (rest.map fun v => v.category).sum ≤ 8) (hl0 : Cond.methodLink own index y ∈ sw_tbl) (dg : decode cc pc = .ok (.invokestatic index, 3)) (k : sw_V p l e d s m args below meth c g A Q nL (pc + 3) lo (.int r :: rest) st1) : sw_V p l e d s m args below meth c g A Q nL pc lo stk st := fun H lcs ls hP hS hl => by
  obtain ⟨m1, m2, m4, m5, m6⟩ := M
  have hts := X.2.2.2.2.1
  have hK := X.2.2.2.2.2.1
  have hg : GoodIn sw_tbl (Cond.code y bytes maxL ret :: sw_tbl) := sw_good m1
  have hcw : CallB (sw_rm d) s args own index y bytes maxL ret (Cond.code y bytes maxL ret :: sw_tbl) (sw_rm d1) 0 0 n ∧ (Cond.static y).before args s = true := ⟨callB_of n hts hg rfl rfl rfl (hts _ m4) (hts _ hl0) m5 ⟨hd, by show 8 + (maxL + 11) + 64 * d1 ≤ 64 * d; omega⟩, hts _ m2⟩
  refine va_calli (va_runS (As := As g) (rest := rest) ⟨X.1, X.2.1, X.2.2.1, X.2.2.2.1, hts⟩ (hc l g H.size X.2.2.2.2.2.2.1) hcw ⟨sw_blind g st H.size _, fun U hU hW => ⟨rfl, by rw [hU], by rw [hU]; exact hP, va_K.moved hW.alike hK⟩⟩ rfl hn hl.1 hstk (lv_room hrest) dg ⟨Nat.le_refl _, Nat.le_refl _⟩) hS (fun q _ h => sw_Asub X hS q h) (sw_Asub X hS) (fun r_ u t H1 lcs1 ht hvm hw hB hz1 hk1 hS1 => ?_)
  obtain ⟨rfl, rfl⟩ := hw
  exact k H1 lcs1 ls (by rw [← ht]; exact hB.1) hS1 hl
theorem sw_callVL (X : sw_Ok p s m args c cc own nL g A) {y : MethodName} {bytes : ByteArray} {maxL n index o ci N d1 : Nat} {ret : Option FieldType} {C : String} {T : u_T} {ty : Nat → FieldType} {As : sw_G → List Value} {r : Int64} {st1 : sw_St} {stk : List Value} (K : sw_Cl ci C T N ty) (ho : sw_kd o = ci) (M : sw_MV y bytes maxL ret n C) (hd : d1 + 1 ≤ d) (hc : sw_CL y (.code y bytes maxL ret) d1 (fun g => .ref (g.1 o) :: As g) st r st1) (hn : (As g).length = n) (hstk : stk = (As g).reverse ++ .ref (g.1 o) :: rest) (hrest : (rest.map fun v => v.category).sum ≤ 8) (hl0 : Cond.methodLink own index y ∈ sw_tbl) (dg : decode cc pc = .ok (.invokevirtual index, 3)) (k : sw_V p l e d s m args below meth c g A Q nL (pc + 3) lo (.long r :: rest) st1) : sw_V p l e d s m args below meth c g A Q nL pc lo stk st := fun H lcs ls hP hS hl => by
  obtain ⟨hci, hcl, -⟩ := K
  obtain ⟨m1, m2, m3, m4, m5, m6⟩ := M
  have hts := X.2.2.2.2.1
  have hK := X.2.2.2.2.2.1
  have hg : GoodIn sw_tbl (Cond.code y bytes maxL ret :: sw_tbl) := sw_good m1
  have hcw : CallW (sw_rm d) s args own C index y bytes maxL ret (Cond.code y bytes maxL ret :: sw_tbl) (sw_rm d1) 0 0 n := ⟨callB_of n hts hg rfl rfl rfl (hts _ m4) (hts _ hl0) m5 ⟨hd, by show 8 + (maxL + 11) + 64 * d1 ≤ 64 * d; omega⟩, hts _ m2, hts _ m3⟩
  refine va_calll (va_runV (As := As g) (rest := rest) ⟨X.1, X.2.1, X.2.2.1, X.2.2.2.1, hts⟩ (hc l g H.size X.2.2.2.2.2.2.1) hcw ⟨sw_blind g st H.size _, va_recv hK hP hcl (by rw [sw_W_get g st (sw_ltk ho (by omega)), sw_cell_o g st ho hci]), fun U hU hW => ⟨rfl, by rw [hU], by rw [hU]; exact hP, va_K.moved hW.alike hK⟩⟩ rfl hn hl.1 hstk (lv_room hrest) dg ⟨Nat.le_refl _, Nat.le_refl _⟩) hS (fun q _ h => sw_Asub X hS q h) (sw_Asub X hS) (fun r_ u t H1 lcs1 ht hvm hw hB hz1 hk1 hS1 => ?_)
  obtain ⟨rfl, rfl⟩ := hw
  exact k H1 lcs1 ls (by rw [← ht]; exact hB.1) hS1 hl
theorem sw_callSL (X : sw_Ok p s m args c cc own nL g A) {y : MethodName} {bytes : ByteArray} {maxL n index d1 : Nat} {ret : Option FieldType} {As : sw_G → List Value} {r : Int64} {st1 : sw_St} {stk : List Value} (M : sw_MS y bytes maxL ret n) (hd : d1 + 1 ≤ d) (hc : sw_CL y (.code y bytes maxL ret) d1 As st r st1) (hn : (As g).length = n) (hstk : stk = (As g).reverse ++ rest) (hrest : (rest.map fun v => v.category).sum ≤ 8) (hl0 : Cond.methodLink own index y ∈ sw_tbl) (dg : decode cc pc = .ok (.invokestatic index, 3)) (k : sw_V p l e d s m args below meth c g A Q nL (pc + 3) lo (.long r :: rest) st1) : sw_V p l e d s m args below meth c g A Q nL pc lo stk st := fun H lcs ls hP hS hl => by
  obtain ⟨m1, m2, m4, m5, m6⟩ := M
  have hts := X.2.2.2.2.1
  have hK := X.2.2.2.2.2.1
  have hg : GoodIn sw_tbl (Cond.code y bytes maxL ret :: sw_tbl) := sw_good m1
  have hcw : CallB (sw_rm d) s args own index y bytes maxL ret (Cond.code y bytes maxL ret :: sw_tbl) (sw_rm d1) 0 0 n ∧ (Cond.static y).before args s = true := ⟨callB_of n hts hg rfl rfl rfl (hts _ m4) (hts _ hl0) m5 ⟨hd, by show 8 + (maxL + 11) + 64 * d1 ≤ 64 * d; omega⟩, hts _ m2⟩
  refine va_calll (va_runS (As := As g) (rest := rest) ⟨X.1, X.2.1, X.2.2.1, X.2.2.2.1, hts⟩ (hc l g H.size X.2.2.2.2.2.2.1) hcw ⟨sw_blind g st H.size _, fun U hU hW => ⟨rfl, by rw [hU], by rw [hU]; exact hP, va_K.moved hW.alike hK⟩⟩ rfl hn hl.1 hstk (lv_room hrest) dg ⟨Nat.le_refl _, Nat.le_refl _⟩) hS (fun q _ h => sw_Asub X hS q h) (sw_Asub X hS) (fun r_ u t H1 lcs1 ht hvm hw hB hz1 hk1 hS1 => ?_)
  obtain ⟨rfl, rfl⟩ := hw
  exact k H1 lcs1 ls (by rw [← ht]; exact hB.1) hS1 hl
theorem sw_callVV (X : sw_Ok p s m args c cc own nL g A) {y : MethodName} {bytes : ByteArray} {maxL n index o ci N d1 : Nat} {ret : Option FieldType} {C : String} {T : u_T} {ty : Nat → FieldType} {As : sw_G → List Value} {st1 : sw_St} {stk : List Value} (K : sw_Cl ci C T N ty) (ho : sw_kd o = ci) (M : sw_MV y bytes maxL ret n C) (hd : d1 + 1 ≤ d) (hc : sw_CV y (.code y bytes maxL ret) d1 (fun g => .ref (g.1 o) :: As g) st  st1) (hn : (As g).length = n) (hstk : stk = (As g).reverse ++ .ref (g.1 o) :: rest) (hrest : (rest.map fun v => v.category).sum ≤ 8) (hl0 : Cond.methodLink own index y ∈ sw_tbl) (dg : decode cc pc = .ok (.invokevirtual index, 3)) (k : sw_V p l e d s m args below meth c g A Q nL (pc + 3) lo (rest) st1) : sw_V p l e d s m args below meth c g A Q nL pc lo stk st := fun H lcs ls hP hS hl => by
  obtain ⟨hci, hcl, -⟩ := K
  obtain ⟨m1, m2, m3, m4, m5, m6⟩ := M
  have hts := X.2.2.2.2.1
  have hK := X.2.2.2.2.2.1
  have hg : GoodIn sw_tbl (Cond.code y bytes maxL ret :: sw_tbl) := sw_good m1
  have hcw : CallW (sw_rm d) s args own C index y bytes maxL ret (Cond.code y bytes maxL ret :: sw_tbl) (sw_rm d1) 0 0 n := ⟨callB_of n hts hg rfl rfl rfl (hts _ m4) (hts _ hl0) m5 ⟨hd, by show 8 + (maxL + 11) + 64 * d1 ≤ 64 * d; omega⟩, hts _ m2, hts _ m3⟩
  refine va_callv (va_runV (As := As g) (rest := rest) ⟨X.1, X.2.1, X.2.2.1, X.2.2.2.1, hts⟩ (hc l g H.size X.2.2.2.2.2.2.1) hcw ⟨sw_blind g st H.size _, va_recv hK hP hcl (by rw [sw_W_get g st (sw_ltk ho (by omega)), sw_cell_o g st ho hci]), fun U hU hW => ⟨rfl, by rw [hU], by rw [hU]; exact hP, va_K.moved hW.alike hK⟩⟩ rfl hn hl.1 hstk (lv_room hrest) dg ⟨Nat.le_refl _, Nat.le_refl _⟩) hS (fun q _ h => sw_Asub X hS q h) (sw_Asub X hS) (fun u t H1 lcs1 ht hvm hw hB hz1 hk1 hS1 => ?_)
  subst hw
  exact k H1 lcs1 ls (by rw [← ht]; exact hB.1) hS1 hl
theorem sw_callSV (X : sw_Ok p s m args c cc own nL g A) {y : MethodName} {bytes : ByteArray} {maxL n index d1 : Nat} {ret : Option FieldType} {As : sw_G → List Value} {st1 : sw_St} {stk : List Value} (M : sw_MS y bytes maxL ret n) (hd : d1 + 1 ≤ d) (hc : sw_CV y (.code y bytes maxL ret) d1 As st  st1) (hn : (As g).length = n) (hstk : stk = (As g).reverse ++ rest) (hrest : (rest.map fun v => v.category).sum ≤ 8) (hl0 : Cond.methodLink own index y ∈ sw_tbl) (dg : decode cc pc = .ok (.invokestatic index, 3)) (k : sw_V p l e d s m args below meth c g A Q nL (pc + 3) lo (rest) st1) : sw_V p l e d s m args below meth c g A Q nL pc lo stk st := fun H lcs ls hP hS hl => by
  obtain ⟨m1, m2, m4, m5, m6⟩ := M
  have hts := X.2.2.2.2.1
  have hK := X.2.2.2.2.2.1
  have hg : GoodIn sw_tbl (Cond.code y bytes maxL ret :: sw_tbl) := sw_good m1
  have hcw : CallB (sw_rm d) s args own index y bytes maxL ret (Cond.code y bytes maxL ret :: sw_tbl) (sw_rm d1) 0 0 n ∧ (Cond.static y).before args s = true := ⟨callB_of n hts hg rfl rfl rfl (hts _ m4) (hts _ hl0) m5 ⟨hd, by show 8 + (maxL + 11) + 64 * d1 ≤ 64 * d; omega⟩, hts _ m2⟩
  refine va_callv (va_runS (As := As g) (rest := rest) ⟨X.1, X.2.1, X.2.2.1, X.2.2.2.1, hts⟩ (hc l g H.size X.2.2.2.2.2.2.1) hcw ⟨sw_blind g st H.size _, fun U hU hW => ⟨rfl, by rw [hU], by rw [hU]; exact hP, va_K.moved hW.alike hK⟩⟩ rfl hn hl.1 hstk (lv_room hrest) dg ⟨Nat.le_refl _, Nat.le_refl _⟩) hS (fun q _ h => sw_Asub X hS q h) (sw_Asub X hS) (fun u t H1 lcs1 ht hvm hw hB hz1 hk1 hS1 => ?_)
  subst hw
  exact k H1 lcs1 ls (by rw [← ht]; exact hB.1) hS1 hl
theorem sw_mmax (X : sw_Ok p s m args c cc own nL g A) {x y : Int32} {index : Nat} (h1 : Cond.methodLink own index Lib.Math.max.name ∈ sw_tbl) (h2 : Cond.static Lib.Math.max.name ∈ sw_tbl) (h3 : Cond.initialized "java/lang/Math" ∈ sw_tbl) (h4 : Cond.code Lib.Math.max.name Lib.Math.max.code 2 (some .int) ∈ sw_tbl) (hd : 1 ≤ d) (hrest : (rest.map fun v => v.category).sum ≤ 8) (dg : decode cc pc = .ok (.invokestatic index, 3)) (k : sw_V p l e d s m args below meth c g A Q nL (pc + 3) lo (.int (if x < y then y else x) :: rest) st) : sw_V p l e d s m args below meth c g A Q nL pc lo (.int y :: .int x :: rest) st := fun H lcs ls hP hS hl =>
  va_mmax X.1 X.2.1 (X.2.2.1.trans hl.1.symm) X.2.2.2.1 (X.2.2.2.2.1 _ h1) (X.2.2.2.2.1 _ h2) (X.2.2.2.2.1 _ h3) (X.2.2.2.2.1 _ h4) hd (by show _ + 13 ≤ 64 * d; omega) (Nat.le_refl _) (Nat.le_refl _) dg (k H lcs ls hP hS hl)
theorem sw_mmin (X : sw_Ok p s m args c cc own nL g A) {x y : Int32} {index : Nat} (h1 : Cond.methodLink own index Lib.Math.min.name ∈ sw_tbl) (h2 : Cond.static Lib.Math.min.name ∈ sw_tbl) (h3 : Cond.initialized "java/lang/Math" ∈ sw_tbl) (h4 : Cond.code Lib.Math.min.name Lib.Math.min.code 2 (some .int) ∈ sw_tbl) (hd : 1 ≤ d) (hrest : (rest.map fun v => v.category).sum ≤ 8) (dg : decode cc pc = .ok (.invokestatic index, 3)) (k : sw_V p l e d s m args below meth c g A Q nL (pc + 3) lo (.int (if y < x then y else x) :: rest) st) : sw_V p l e d s m args below meth c g A Q nL pc lo (.int y :: .int x :: rest) st := fun H lcs ls hP hS hl =>
  va_mmin X.1 X.2.1 (X.2.2.1.trans hl.1.symm) X.2.2.2.1 (X.2.2.2.2.1 _ h1) (X.2.2.2.2.1 _ h2) (X.2.2.2.2.1 _ h3) (X.2.2.2.2.1 _ h4) hd (by show _ + 13 ≤ 64 * d; omega) (Nat.le_refl _) (Nat.le_refl _) dg (k H lcs ls hP hS hl)
theorem sw_copy (X : sw_Ok p s m args c cc own nL g A) {a b n0 n1 : Nat} {sp dp n : Int32} {index : Nat} (ha : sw_kd a = 8) (hn0 : sw_ln a = n0) (hb : sw_kd b = 8) (hn1 : sw_ln b = n1) (h1 : ¬ sp < 0) (h2 : ¬ dp < 0) (h3 : ¬ n < 0) (h4 : sp.toNatClampNeg + n.toNatClampNeg ≤ n0) (h5 : dp.toNatClampNeg + n.toNatClampNeg ≤ n1)
    (m1 : Cond.methodLink own index arraycopyName ∈ sw_tbl) (m2 : Cond.native arraycopyName ∈ sw_tbl) (m3 : Cond.static arraycopyName ∈ sw_tbl) (m4 : Cond.initialized "java/lang/System" ∈ sw_tbl) (hd : 1 ≤ d) (hrest : (rest.map fun v => v.category).sum ≤ 8) (dg : decode cc pc = .ok (.invokestatic index, 3))
    (k : ∀ st1, st1 = (sw_setA st b (va_cpy (st.1 a) (st.1 b) sp.toNatClampNeg dp.toNatClampNeg n.toNatClampNeg)) → sw_V p l e d s m args below meth c g A Q nL (pc + 3) lo rest st1) : sw_V p l e d s m args below meth c g A Q nL pc lo (.int n :: .int dp :: .ref (g.1 b) :: .int sp :: .ref (g.1 a) :: rest) st := fun H lcs ls hP hS hl => by
  refine va_copyi X.1 X.2.1 (X.2.2.1.trans hl.1.symm) X.2.2.2.1 (X.2.2.2.2.1 _ m1) (X.2.2.2.2.1 _ m2) (X.2.2.2.2.1 _ m3) (X.2.2.2.2.1 _ m4) X.2.2.2.2.2.1 hP (sw_W_D g A X.2.2.2.2.2.2.1 X.2.2.2.2.2.2.2.1 st) hS a b 1 1 (by rw [sw_W_get g st (sw_ltk ha (by decide)), sw_cell_a g st ha hn0 (by decide) (by decide)]) (by rw [sw_W_get g st (sw_ltk hb (by decide)), sw_cell_a g st hb hn1 (by decide) (by decide)]) rfl rfl rfl h1 h2 h3 h4 h5 (fun _ _ => rfl) hd ?_ dg (fun H1 lcs1 hP1 hD1 hS1 => ?_)
  · have e : nativeFrameWords "java/lang/System" "arraycopy" 5 + 11 ≤ 56 := by decide +kernel
    show _ + (nativeFrameWords "java/lang/System" "arraycopy" 5 + 11) ≤ 64 * d
    omega
  · rw [sw_set_a g st hb hn1 (by decide) (by decide)] at hP1
    exact k _ rfl H1 lcs1 ls hP1 hS1 hl
end SWC
end
section
theorem i_vc : Claimed_1_1 ∧ Claimed_1_2 := sorry
end
