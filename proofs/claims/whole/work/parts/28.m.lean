theorem dX6_meets_0 : decode cX6_meets 0 = .ok (.iload_n 1, 1) := by decide +kernel
theorem dX6_meets_1 : decode cX6_meets 1 = .ok (.i2l, 1) := by decide +kernel
theorem dX6_meets_2 : decode cX6_meets 2 = .ok (.lconst 0, 1) := by decide +kernel
theorem dX6_meets_3 : decode cX6_meets 3 = .ok (.ldc2_w 238, 3) := by decide +kernel
theorem dX6_meets_6 : decode cX6_meets 6 = .ok (.invokestatic 63, 3) := by decide +kernel
theorem dX6_meets_9 : decode cX6_meets 9 = .ok (.ifCond .ne 5, 3) := by decide +kernel
theorem dX6_meets_12 : decode cX6_meets 12 = .ok (.iconst (-1), 1) := by decide +kernel
theorem dX6_meets_13 : decode cX6_meets 13 = .ok (.ireturn, 1) := by decide +kernel
theorem dX6_meets_14 : decode cX6_meets 14 = .ok (.aload_n 0, 1) := by decide +kernel
theorem dX6_meets_15 : decode cX6_meets 15 = .ok (.getfield 136, 3) := by decide +kernel
theorem dX6_meets_18 : decode cX6_meets 18 = .ok (.ifCond .ne 6, 3) := by decide +kernel
theorem dX6_meets_21 : decode cX6_meets 21 = .ok (.bipush (-4), 2) := by decide +kernel
theorem dX6_meets_23 : decode cX6_meets 23 = .ok (.ireturn, 1) := by decide +kernel
theorem dX6_meets_24 : decode cX6_meets 24 = .ok (.aload_n 0, 1) := by decide +kernel
theorem dX6_meets_25 : decode cX6_meets 25 = .ok (.invokevirtual 187, 3) := by decide +kernel
theorem dX6_meets_28 : decode cX6_meets 28 = .ok (.iconst 0, 1) := by decide +kernel
theorem dX6_meets_29 : decode cX6_meets 29 = .ok (.istore_n 2, 1) := by decide +kernel
theorem dX6_meets_30 : decode cX6_meets 30 = .ok (.iload_n 2, 1) := by decide +kernel
theorem dX6_meets_31 : decode cX6_meets 31 = .ok (.bipush 41, 2) := by decide +kernel
theorem dX6_meets_33 : decode cX6_meets 33 = .ok (.if_icmp .ge 48, 3) := by decide +kernel
theorem dX6_meets_36 : decode cX6_meets 36 = .ok (.aload_n 0, 1) := by decide +kernel
theorem dX6_meets_37 : decode cX6_meets 37 = .ok (.getfield 7, 3) := by decide +kernel
theorem dX6_meets_40 : decode cX6_meets 40 = .ok (.sipush 830, 3) := by decide +kernel
theorem dX6_meets_43 : decode cX6_meets 43 = .ok (.iaload, 1) := by decide +kernel
theorem dX6_meets_44 : decode cX6_meets 44 = .ok (.iload_n 1, 1) := by decide +kernel
theorem dX6_meets_45 : decode cX6_meets 45 = .ok (.iload_n 2, 1) := by decide +kernel
theorem dX6_meets_46 : decode cX6_meets 46 = .ok (.iadd, 1) := by decide +kernel
theorem dX6_meets_47 : decode cX6_meets 47 = .ok (.bipush 12, 2) := by decide +kernel
theorem dX6_meets_49 : decode cX6_meets 49 = .ok (.irem, 1) := by decide +kernel
theorem dX6_meets_50 : decode cX6_meets 50 = .ok (.if_icmp .ne 17, 3) := by decide +kernel
theorem dX6_meets_53 : decode cX6_meets 53 = .ok (.aload_n 0, 1) := by decide +kernel
theorem dX6_meets_54 : decode cX6_meets 54 = .ok (.aload_n 0, 1) := by decide +kernel
theorem dX6_meets_55 : decode cX6_meets 55 = .ok (.getfield 7, 3) := by decide +kernel
theorem dX6_meets_58 : decode cX6_meets 58 = .ok (.sipush 830, 3) := by decide +kernel
theorem dX6_meets_61 : decode cX6_meets 61 = .ok (.iaload, 1) := by decide +kernel
theorem dX6_meets_62 : decode cX6_meets 62 = .ok (.putfield 58, 3) := by decide +kernel
theorem dX6_meets_65 : decode cX6_meets 65 = .ok (.iload_n 2, 1) := by decide +kernel
theorem dX6_meets_66 : decode cX6_meets 66 = .ok (.ireturn, 1) := by decide +kernel
theorem dX6_meets_67 : decode cX6_meets 67 = .ok (.aload_n 0, 1) := by decide +kernel
theorem dX6_meets_68 : decode cX6_meets 68 = .ok (.sipush 828, 3) := by decide +kernel
theorem dX6_meets_71 : decode cX6_meets 71 = .ok (.invokevirtual 176, 3) := by decide +kernel
theorem dX6_meets_74 : decode cX6_meets 74 = .ok (.pop, 1) := by decide +kernel
theorem dX6_meets_75 : decode cX6_meets 75 = .ok (.iinc 2 1, 3) := by decide +kernel
theorem dX6_meets_78 : decode cX6_meets 78 = .ok (.goto (-48), 3) := by decide +kernel
theorem dX6_meets_81 : decode cX6_meets 81 = .ok (.bipush (-9), 2) := by decide +kernel
theorem dX6_meets_83 : decode cX6_meets 83 = .ok (.ireturn, 1) := by decide +kernel
def j_X6_meets (F : Nat) (a1 : Int32) (st : sw_St) : Option (Int32 × sw_St) :=
bo (j_X6_in F ((a1 : Int32).toInt64) 0 11 st) (fun (r2 : Int32) =>
(if r2 = 0 then (
 some (((-1) : Int32), st))
else (
 (if (st.1 63 1) = 0 then (
  some (((-4) : Int32), st))
 else (
  bd (j_X6_layTried F st) (fun (_ : Unit) (s6 : sw_St) =>
  lz2 (fun f9 (x7 : Int32) (s8 : sw_St) =>
   (if 41 ≤ x7 then (
    some (((-9) : Int32), s8))
   else (
    (if (s8.1 64 830) = ((a1 + x7) - (a1 + x7) / 12 * 12) then (
     nm (sw_setC s8 63 9 (s8.1 64 830)) (fun (s19 : sw_St) =>
     some ((x7 : Int32), s19)))
    else (
     bd (j_X6_pass F 828 s8) (fun (r15 : Int32) (s16 : sw_St) =>
     nm (x7 + 1) (fun (x17 : Int32) =>
     f9 x17 s16))))))) F 0 s6))))))
set_option maxHeartbeats 4000000 in
set_option maxRecDepth 100000 in
theorem c_X6_meets (F : Nat) (a1 : Int32) (st : sw_St) {r : Int32} {st1 : sw_St} (h : j_X6_meets F a1 st = some (r, st1)) : sw_CI yX6_meets (.code yX6_meets cX6_meets 3 (some .int)) 2 (fun g => [.ref (g.1 63), .int a1]) st r st1 := by
  refine sw_entI RX6 (fun g => [(0, .ref (g.1 63)), (1, .int a1)]) (by decide) rfl (fun _ => Nat.le_of_ble_eq_true rfl) (fun _ => rfl) ?_
  intro p l e s m args below meth c g X hr hlk
  unfold j_X6_meets at h
  refine sw_iload_n X 1 rfl rfl dX6_meets_0 ?_
  refine sw_i2l X dX6_meets_1 ?_
  refine sw_lconst X (v := 0) (by decide) dX6_meets_2 ?_
  refine sw_ldc2 X (v := 11) wl_X6_238 dX6_meets_3 ?_
  obtain ⟨r2, c1, h⟩ := bo_E h
  refine sw_callSI X (As := (fun g => [.long ((a1 : Int32).toInt64), .long 0, .long 11])) ws_X6_in (by omega) (c_X6_in F ((a1 : Int32).toInt64) 0 11 st c1) rfl rfl (Nat.le_of_ble_eq_true rfl) wm_X6_63 dX6_meets_6 ?_
  refine sw_if_ne X 14 (by decide) dX6_meets_9 (fun q3 => ?_) (fun q3 => ?_)
  · have h := ite_F h q3
    refine sw_aload_n X 0 rfl rfl dX6_meets_14 ?_
    refine sw_getI X sw_cl6 (show sw_kd 63 = 6 from rfl) (k := 1) rfl (by decide) wf_X6_136 dX6_meets_15 ?_
    refine sw_if_ne X 24 (by decide) dX6_meets_18 (fun q4 => ?_) (fun q4 => ?_)
    · have h := ite_F h q4
      refine sw_aload_n X 0 rfl rfl dX6_meets_24 ?_
      obtain ⟨u20, s6, c5, h⟩ := bd_E h
      refine sw_callVV X (o := 63) (As := (fun g => [])) sw_cl6 (show sw_kd 63 = 6 from rfl) ws_X6_layTried (by omega) (c_X6_layTried F st c5) rfl rfl (Nat.le_of_ble_eq_true rfl) wm_X6_187 dX6_meets_25 ?_
      refine sw_iconst X (v := 0) (by decide) dX6_meets_28 ?_
      refine sw_istore_n X [(2, .int 0), (0, .ref (g.1 63)), (1, .int a1)] rfl (by decide) rfl dX6_meets_29 ?_
      refine sw_sub [1, 2, 0] rfl ?_
      refine lz2_E (fun (x7 : Int32) (s8 : sw_St) => sw_V p l e 2 s m args below meth c g (sw_A g s.heap.size) (sw_QI below g args s r st1) 3 30 [(0, .ref (g.1 63)), (1, .int a1), (2, .int x7)] [] s8) h (fun f9 ih10 x7 s8 h => ?_)
      refine sw_iload_n X 2 rfl rfl dX6_meets_30 ?_
      refine sw_bipush X (v := 41) (by decide) dX6_meets_31 ?_
      refine sw_icmp_ge X 81 (by decide) dX6_meets_33 (fun q11 => ?_) (fun q11 => ?_)
      · have h := ite_T h q11
        refine sw_bipush X (v := (-9)) (by decide) dX6_meets_81 ?_
        exact sw_iret X hr hlk dX6_meets_83 h
      · have h := ite_F h q11
        refine sw_aload_n X 0 rfl rfl dX6_meets_36 ?_
        refine sw_getR X sw_cl6 (show sw_kd 63 = 6 from rfl) (k := 0) rfl (by decide) (o1 := 64) rfl wf_X6_7 dX6_meets_37 ?_
        refine sw_sipush X (v := 830) (by decide) dX6_meets_40 ?_
        refine sw_iald X (show sw_kd 64 = 8 from rfl) (n := 835) rfl (i := 830) (by unfold vp_in; decide) dX6_meets_43 ?_
        refine sw_iload_n X 1 rfl rfl dX6_meets_44 ?_
        refine sw_iload_n X 2 rfl rfl dX6_meets_45 ?_
        refine sw_iadd X dX6_meets_46 ?_
        refine sw_bipush X (v := 12) (by decide) dX6_meets_47 ?_
        refine sw_irem X (by decide) dX6_meets_49 ?_
        refine sw_icmp_ne X 67 (by decide) dX6_meets_50 (fun q13 => ?_) (fun q13 => ?_)
        · have h := ite_F h q13
          refine sw_aload_n X 0 rfl rfl dX6_meets_67 ?_
          refine sw_sipush X (v := 828) (by decide) dX6_meets_68 ?_
          obtain ⟨r15, s16, c14, h⟩ := bd_E h
          refine sw_callVI X (o := 63) (As := (fun g => [.int 828])) sw_cl6 (show sw_kd 63 = 6 from rfl) ws_X6_pass (by omega) (c_X6_pass F 828 s8 c14) rfl rfl (Nat.le_of_ble_eq_true rfl) wm_X6_176 dX6_meets_71 ?_
          refine sw_pop X rfl dX6_meets_74 ?_
          obtain ⟨x17, ex17⟩ : ∃ y : Int32, y = x7 + 1 := ⟨_, rfl⟩
          have h := nm_E h ex17
          refine sw_iinc X 2 x17 [(2, .int x17), (0, .ref (g.1 63)), (1, .int a1)] rfl (by rw [ex17]; rfl) (by decide) rfl dX6_meets_75 ?_
          refine sw_goto X 30 (by decide) dX6_meets_78 ?_
          refine sw_sub [1, 2, 0] rfl ?_
          exact ih10 _ _ h
        · have h := ite_T h q13
          refine sw_aload_n X 0 rfl rfl dX6_meets_53 ?_
          refine sw_aload_n X 0 rfl rfl dX6_meets_54 ?_
          refine sw_getR X sw_cl6 (show sw_kd 63 = 6 from rfl) (k := 0) rfl (by decide) (o1 := 64) rfl wf_X6_7 dX6_meets_55 ?_
          refine sw_sipush X (v := 830) (by decide) dX6_meets_58 ?_
          refine sw_iald X (show sw_kd 64 = 8 from rfl) (n := 835) rfl (i := 830) (by unfold vp_in; decide) dX6_meets_61 ?_
          refine sw_putI X sw_cl6 (show sw_kd 63 = 6 from rfl) (k := 9) rfl (by decide) rfl rfl wf_X6_58 dX6_meets_62 (fun s19 es19 => ?_)
          have h := nm_E h es19
          refine sw_iload_n X 2 rfl rfl dX6_meets_65 ?_
          exact sw_iret X hr hlk dX6_meets_66 h
    · have h := ite_T h q4
      refine sw_bipush X (v := (-4)) (by decide) dX6_meets_21 ?_
      exact sw_iret X hr hlk dX6_meets_23 h
  · have h := ite_T h q3
    refine sw_iconst X (v := (-1)) (by decide) dX6_meets_12 ?_
    exact sw_iret X hr hlk dX6_meets_13 h
theorem dX6_check_0 : decode cX6_check 0 = .ok (.iload_n 1, 1) := by decide +kernel
theorem dX6_check_1 : decode cX6_check 1 = .ok (.invokestatic 69, 3) := by decide +kernel
theorem dX6_check_4 : decode cX6_check 4 = .ok (.ifCond .ne 5, 3) := by decide +kernel
theorem dX6_check_7 : decode cX6_check 7 = .ok (.iconst (-1), 1) := by decide +kernel
theorem dX6_check_8 : decode cX6_check 8 = .ok (.ireturn, 1) := by decide +kernel
theorem dX6_check_9 : decode cX6_check 9 = .ok (.aload_n 0, 1) := by decide +kernel
theorem dX6_check_10 : decode cX6_check 10 = .ok (.getfield 136, 3) := by decide +kernel
theorem dX6_check_13 : decode cX6_check 13 = .ok (.ifCond .ne 6, 3) := by decide +kernel
theorem dX6_check_16 : decode cX6_check 16 = .ok (.bipush (-4), 2) := by decide +kernel
theorem dX6_check_18 : decode cX6_check 18 = .ok (.ireturn, 1) := by decide +kernel
theorem dX6_check_19 : decode cX6_check 19 = .ok (.aload_n 0, 1) := by decide +kernel
theorem dX6_check_20 : decode cX6_check 20 = .ok (.getfield 22, 3) := by decide +kernel
theorem dX6_check_23 : decode cX6_check 23 = .ok (.iload_n 1, 1) := by decide +kernel
theorem dX6_check_24 : decode cX6_check 24 = .ok (.iaload, 1) := by decide +kernel
theorem dX6_check_25 : decode cX6_check 25 = .ok (.ifCond .ge 9, 3) := by decide +kernel
theorem dX6_check_28 : decode cX6_check 28 = .ok (.aload_n 0, 1) := by decide +kernel
theorem dX6_check_29 : decode cX6_check 29 = .ok (.iconst 1, 1) := by decide +kernel
theorem dX6_check_30 : decode cX6_check 30 = .ok (.invokevirtual 73, 3) := by decide +kernel
theorem dX6_check_33 : decode cX6_check 33 = .ok (.ireturn, 1) := by decide +kernel
theorem dX6_check_34 : decode cX6_check 34 = .ok (.aload_n 0, 1) := by decide +kernel
theorem dX6_check_35 : decode cX6_check 35 = .ok (.getfield 22, 3) := by decide +kernel
theorem dX6_check_38 : decode cX6_check 38 = .ok (.iload_n 1, 1) := by decide +kernel
theorem dX6_check_39 : decode cX6_check 39 = .ok (.iaload, 1) := by decide +kernel
theorem dX6_check_40 : decode cX6_check 40 = .ok (.iconst 2, 1) := by decide +kernel
theorem dX6_check_41 : decode cX6_check 41 = .ok (.irem, 1) := by decide +kernel
theorem dX6_check_42 : decode cX6_check 42 = .ok (.ifCond .eq 9, 3) := by decide +kernel
theorem dX6_check_45 : decode cX6_check 45 = .ok (.aload_n 0, 1) := by decide +kernel
theorem dX6_check_46 : decode cX6_check 46 = .ok (.iconst 5, 1) := by decide +kernel
theorem dX6_check_47 : decode cX6_check 47 = .ok (.invokevirtual 73, 3) := by decide +kernel
theorem dX6_check_50 : decode cX6_check 50 = .ok (.ireturn, 1) := by decide +kernel
theorem dX6_check_51 : decode cX6_check 51 = .ok (.iconst 0, 1) := by decide +kernel
theorem dX6_check_52 : decode cX6_check 52 = .ok (.istore_n 2, 1) := by decide +kernel
theorem dX6_check_53 : decode cX6_check 53 = .ok (.iload_n 2, 1) := by decide +kernel
theorem dX6_check_54 : decode cX6_check 54 = .ok (.aload_n 0, 1) := by decide +kernel
theorem dX6_check_55 : decode cX6_check 55 = .ok (.getfield 22, 3) := by decide +kernel
theorem dX6_check_58 : decode cX6_check 58 = .ok (.iload_n 1, 1) := by decide +kernel
theorem dX6_check_59 : decode cX6_check 59 = .ok (.iaload, 1) := by decide +kernel
theorem dX6_check_60 : decode cX6_check 60 = .ok (.if_icmp .ge 33, 3) := by decide +kernel
theorem dX6_check_63 : decode cX6_check 63 = .ok (.aload_n 0, 1) := by decide +kernel
theorem dX6_check_64 : decode cX6_check 64 = .ok (.aload_n 0, 1) := by decide +kernel
theorem dX6_check_65 : decode cX6_check 65 = .ok (.getfield 25, 3) := by decide +kernel
theorem dX6_check_68 : decode cX6_check 68 = .ok (.bipush 40, 2) := by decide +kernel
theorem dX6_check_70 : decode cX6_check 70 = .ok (.iload_n 1, 1) := by decide +kernel
theorem dX6_check_71 : decode cX6_check 71 = .ok (.imul, 1) := by decide +kernel
theorem dX6_check_72 : decode cX6_check 72 = .ok (.iload_n 2, 1) := by decide +kernel
theorem dX6_check_73 : decode cX6_check 73 = .ok (.iadd, 1) := by decide +kernel
theorem dX6_check_74 : decode cX6_check 74 = .ok (.iaload, 1) := by decide +kernel
theorem dX6_check_75 : decode cX6_check 75 = .ok (.invokevirtual 155, 3) := by decide +kernel
theorem dX6_check_78 : decode cX6_check 78 = .ok (.ifCond .ne 9, 3) := by decide +kernel
theorem dX6_check_81 : decode cX6_check 81 = .ok (.aload_n 0, 1) := by decide +kernel
theorem dX6_check_82 : decode cX6_check 82 = .ok (.iconst 3, 1) := by decide +kernel
theorem dX6_check_83 : decode cX6_check 83 = .ok (.invokevirtual 73, 3) := by decide +kernel
theorem dX6_check_86 : decode cX6_check 86 = .ok (.ireturn, 1) := by decide +kernel
theorem dX6_check_87 : decode cX6_check 87 = .ok (.iinc 2 2, 3) := by decide +kernel
theorem dX6_check_90 : decode cX6_check 90 = .ok (.goto (-37), 3) := by decide +kernel
theorem dX6_check_93 : decode cX6_check 93 = .ok (.aload_n 0, 1) := by decide +kernel
theorem dX6_check_94 : decode cX6_check 94 = .ok (.invokevirtual 187, 3) := by decide +kernel
theorem dX6_check_97 : decode cX6_check 97 = .ok (.iconst 0, 1) := by decide +kernel
theorem dX6_check_98 : decode cX6_check 98 = .ok (.istore_n 2, 1) := by decide +kernel
theorem dX6_check_99 : decode cX6_check 99 = .ok (.iload_n 2, 1) := by decide +kernel
theorem dX6_check_100 : decode cX6_check 100 = .ok (.aload_n 0, 1) := by decide +kernel
theorem dX6_check_101 : decode cX6_check 101 = .ok (.getfield 22, 3) := by decide +kernel
theorem dX6_check_104 : decode cX6_check 104 = .ok (.iload_n 1, 1) := by decide +kernel
theorem dX6_check_105 : decode cX6_check 105 = .ok (.iaload, 1) := by decide +kernel
theorem dX6_check_106 : decode cX6_check 106 = .ok (.if_icmp .ge 72, 3) := by decide +kernel
theorem dX6_check_109 : decode cX6_check 109 = .ok (.aload_n 0, 1) := by decide +kernel
theorem dX6_check_110 : decode cX6_check 110 = .ok (.getfield 25, 3) := by decide +kernel
theorem dX6_check_113 : decode cX6_check 113 = .ok (.bipush 40, 2) := by decide +kernel
theorem dX6_check_115 : decode cX6_check 115 = .ok (.iload_n 1, 1) := by decide +kernel
theorem dX6_check_116 : decode cX6_check 116 = .ok (.imul, 1) := by decide +kernel
theorem dX6_check_117 : decode cX6_check 117 = .ok (.iload_n 2, 1) := by decide +kernel
theorem dX6_check_118 : decode cX6_check 118 = .ok (.iadd, 1) := by decide +kernel
theorem dX6_check_119 : decode cX6_check 119 = .ok (.iaload, 1) := by decide +kernel
theorem dX6_check_120 : decode cX6_check 120 = .ok (.istore_n 3, 1) := by decide +kernel
theorem dX6_check_121 : decode cX6_check 121 = .ok (.aload_n 0, 1) := by decide +kernel
theorem dX6_check_122 : decode cX6_check 122 = .ok (.sipush 828, 3) := by decide +kernel
theorem dX6_check_125 : decode cX6_check 125 = .ok (.iload_n 3, 1) := by decide +kernel
theorem dX6_check_126 : decode cX6_check 126 = .ok (.invokevirtual 167, 3) := by decide +kernel
theorem dX6_check_129 : decode cX6_check 129 = .ok (.ifCond .eq 7, 3) := by decide +kernel
theorem dX6_check_132 : decode cX6_check 132 = .ok (.iload_n 2, 1) := by decide +kernel
theorem dX6_check_133 : decode cX6_check 133 = .ok (.iconst 2, 1) := by decide +kernel
theorem dX6_check_134 : decode cX6_check 134 = .ok (.idiv, 1) := by decide +kernel
theorem dX6_check_135 : decode cX6_check 135 = .ok (.ireturn, 1) := by decide +kernel
theorem dX6_check_136 : decode cX6_check 136 = .ok (.aload_n 0, 1) := by decide +kernel
theorem dX6_check_137 : decode cX6_check 137 = .ok (.sipush 828, 3) := by decide +kernel
theorem dX6_check_140 : decode cX6_check 140 = .ok (.iload_n 3, 1) := by decide +kernel
theorem dX6_check_141 : decode cX6_check 141 = .ok (.invokevirtual 152, 3) := by decide +kernel
theorem dX6_check_144 : decode cX6_check 144 = .ok (.aload_n 0, 1) := by decide +kernel
theorem dX6_check_145 : decode cX6_check 145 = .ok (.getfield 7, 3) := by decide +kernel
theorem dX6_check_148 : decode cX6_check 148 = .ok (.sipush 829, 3) := by decide +kernel
theorem dX6_check_151 : decode cX6_check 151 = .ok (.iaload, 1) := by decide +kernel
theorem dX6_check_152 : decode cX6_check 152 = .ok (.aload_n 0, 1) := by decide +kernel
theorem dX6_check_153 : decode cX6_check 153 = .ok (.getfield 25, 3) := by decide +kernel
theorem dX6_check_156 : decode cX6_check 156 = .ok (.bipush 40, 2) := by decide +kernel
theorem dX6_check_158 : decode cX6_check 158 = .ok (.iload_n 1, 1) := by decide +kernel
theorem dX6_check_159 : decode cX6_check 159 = .ok (.imul, 1) := by decide +kernel
theorem dX6_check_160 : decode cX6_check 160 = .ok (.iload_n 2, 1) := by decide +kernel
theorem dX6_check_161 : decode cX6_check 161 = .ok (.iadd, 1) := by decide +kernel
theorem dX6_check_162 : decode cX6_check 162 = .ok (.iconst 1, 1) := by decide +kernel
theorem dX6_check_163 : decode cX6_check 163 = .ok (.iadd, 1) := by decide +kernel
theorem dX6_check_164 : decode cX6_check 164 = .ok (.iaload, 1) := by decide +kernel
theorem dX6_check_165 : decode cX6_check 165 = .ok (.if_icmp .eq 7, 3) := by decide +kernel
theorem dX6_check_168 : decode cX6_check 168 = .ok (.iload_n 2, 1) := by decide +kernel
theorem dX6_check_169 : decode cX6_check 169 = .ok (.iconst 2, 1) := by decide +kernel
theorem dX6_check_170 : decode cX6_check 170 = .ok (.idiv, 1) := by decide +kernel
theorem dX6_check_171 : decode cX6_check 171 = .ok (.ireturn, 1) := by decide +kernel
theorem dX6_check_172 : decode cX6_check 172 = .ok (.iinc 2 2, 3) := by decide +kernel
theorem dX6_check_175 : decode cX6_check 175 = .ok (.goto (-76), 3) := by decide +kernel
theorem dX6_check_178 : decode cX6_check 178 = .ok (.bipush (-9), 2) := by decide +kernel
theorem dX6_check_180 : decode cX6_check 180 = .ok (.ireturn, 1) := by decide +kernel
def j_X6_check (F : Nat) (a1 : Int32) (st : sw_St) : Option (Int32 × sw_St) :=
bo (j_X6_isRow F a1 st) (fun (r2 : Int32) =>
(if r2 = 0 then (
 some (((-1) : Int32), st))
else (
 (if (st.1 63 1) = 0 then (
  some (((-4) : Int32), st))
 else (
  bnd a1 6 (
  (if 0 ≤ (st.1 68 (a1 : Int32).toNatClampNeg) then (
   bnd a1 6 (
   (if ((st.1 68 (a1 : Int32).toNatClampNeg) - (st.1 68 (a1 : Int32).toNatClampNeg) / 2 * 2) = 0 then (
    lz1 (fun f10 (x9 : Int32) =>
     bnd a1 6 (
     (if (st.1 68 (a1 : Int32).toNatClampNeg) ≤ x9 then (
      bd (j_X6_layTried F st) (fun (_ : Unit) (s15 : sw_St) =>
      lz2 (fun f18 (x16 : Int32) (s17 : sw_St) =>
       bnd a1 6 (
       (if (s17.1 68 (a1 : Int32).toNatClampNeg) ≤ x16 then (
        some (((-9) : Int32), s17))
       else (
        bnd ((40 * a1) + x16) 240 (
        nm (s17.1 69 (((40 * a1) + x16) : Int32).toNatClampNeg) (fun (x23 : Int32) =>
        bo (j_X6_isIn F 828 x23 s17) (fun (r25 : Int32) =>
        (if r25 = 0 then (
         bd (j_X6_comesIn F 828 x23 s17) (fun (_ : Unit) (s28 : sw_St) =>
         bnd (((40 * a1) + x16) + 1) 240 (
         (if (s28.1 64 829) = (s28.1 69 ((((40 * a1) + x16) + 1) : Int32).toNatClampNeg) then (
          nm (x16 + 2) (fun (x32 : Int32) =>
          f18 x32 s28))
         else (
          some ((x16 / 2 : Int32), s28))))))
        else (
         some ((x16 / 2 : Int32), s17)))))))))) F 0 s15))
     else (
      bnd ((40 * a1) + x9) 240 (
      bo (j_X6_isStranger F (st.1 69 (((40 * a1) + x9) : Int32).toNatClampNeg) st) (fun (r37 : Int32) =>
      (if r37 = 0 then (
       bd (j_X6_find F 3 st) (fun (r41 : Int32) (s42 : sw_St) =>
       some ((r41 : Int32), s42)))
      else (
       nm (x9 + 2) (fun (x39 : Int32) =>
       f10 x39))))))))) F 0)
   else (
    bd (j_X6_find F 5 st) (fun (r44 : Int32) (s45 : sw_St) =>
    some ((r44 : Int32), s45))))))
  else (
   bd (j_X6_find F 1 st) (fun (r47 : Int32) (s48 : sw_St) =>
   some ((r47 : Int32), s48))))))))))
set_option maxHeartbeats 4000000 in
set_option maxRecDepth 100000 in
theorem c_X6_check (F : Nat) (a1 : Int32) (st : sw_St) {r : Int32} {st1 : sw_St} (h : j_X6_check F a1 st = some (r, st1)) : sw_CI yX6_check (.code yX6_check cX6_check 4 (some .int)) 5 (fun g => [.ref (g.1 63), .int a1]) st r st1 := by
  refine sw_entI RX6 (fun g => [(0, .ref (g.1 63)), (1, .int a1)]) (by decide) rfl (fun _ => Nat.le_of_ble_eq_true rfl) (fun _ => rfl) ?_
  intro p l e s m args below meth c g X hr hlk
  unfold j_X6_check at h
  refine sw_iload_n X 1 rfl rfl dX6_check_0 ?_
  obtain ⟨r2, c1, h⟩ := bo_E h
  refine sw_callSI X (As := (fun g => [.int a1])) ws_X6_isRow (by omega) (c_X6_isRow F a1 st c1) rfl rfl (Nat.le_of_ble_eq_true rfl) wm_X6_69 dX6_check_1 ?_
  refine sw_if_ne X 9 (by decide) dX6_check_4 (fun q3 => ?_) (fun q3 => ?_)
  · have h := ite_F h q3
    refine sw_aload_n X 0 rfl rfl dX6_check_9 ?_
    refine sw_getI X sw_cl6 (show sw_kd 63 = 6 from rfl) (k := 1) rfl (by decide) wf_X6_136 dX6_check_10 ?_
    refine sw_if_ne X 19 (by decide) dX6_check_13 (fun q4 => ?_) (fun q4 => ?_)
    · have h := ite_F h q4
      refine sw_aload_n X 0 rfl rfl dX6_check_19 ?_
      refine sw_getR X sw_cl6 (show sw_kd 63 = 6 from rfl) (k := 5) rfl (by decide) (o1 := 68) rfl wf_X6_22 dX6_check_20 ?_
      refine sw_iload_n X 1 rfl rfl dX6_check_23 ?_
      obtain ⟨q5, h⟩ := bnd_E h
      refine sw_iald X (show sw_kd 68 = 8 from rfl) (n := 6) rfl q5 dX6_check_24 ?_
      refine sw_if_ge X 34 (by decide) dX6_check_25 (fun q6 => ?_) (fun q6 => ?_)
      · have h := ite_T h q6
        refine sw_aload_n X 0 rfl rfl dX6_check_34 ?_
        refine sw_getR X sw_cl6 (show sw_kd 63 = 6 from rfl) (k := 5) rfl (by decide) (o1 := 68) rfl wf_X6_22 dX6_check_35 ?_
        refine sw_iload_n X 1 rfl rfl dX6_check_38 ?_
        obtain ⟨q7, h⟩ := bnd_E h
        refine sw_iald X (show sw_kd 68 = 8 from rfl) (n := 6) rfl q7 dX6_check_39 ?_
        refine sw_iconst X (v := 2) (by decide) dX6_check_40 ?_
        refine sw_irem X (by decide) dX6_check_41 ?_
        refine sw_if_eq X 51 (by decide) dX6_check_42 (fun q8 => ?_) (fun q8 => ?_)
        · have h := ite_T h q8
          refine sw_iconst X (v := 0) (by decide) dX6_check_51 ?_
          refine sw_istore_n X [(2, .int 0), (0, .ref (g.1 63)), (1, .int a1)] rfl (by decide) rfl dX6_check_52 ?_
          refine sw_sub [1, 2, 0] rfl ?_
          refine lz1_E (fun (x9 : Int32) => sw_V p l e 5 s m args below meth c g (sw_A g s.heap.size) (sw_QI below g args s r st1) 4 53 [(0, .ref (g.1 63)), (1, .int a1), (2, .int x9)] [] st) h (fun f10 ih11 x9 h => ?_)
          refine sw_iload_n X 2 rfl rfl dX6_check_53 ?_
          refine sw_aload_n X 0 rfl rfl dX6_check_54 ?_
          refine sw_getR X sw_cl6 (show sw_kd 63 = 6 from rfl) (k := 5) rfl (by decide) (o1 := 68) rfl wf_X6_22 dX6_check_55 ?_
          refine sw_iload_n X 1 rfl rfl dX6_check_58 ?_
          obtain ⟨q12, h⟩ := bnd_E h
          refine sw_iald X (show sw_kd 68 = 8 from rfl) (n := 6) rfl q12 dX6_check_59 ?_
          refine sw_icmp_ge X 93 (by decide) dX6_check_60 (fun q13 => ?_) (fun q13 => ?_)
          · have h := ite_T h q13
            refine sw_aload_n X 0 rfl rfl dX6_check_93 ?_
            obtain ⟨u34, s15, c14, h⟩ := bd_E h
            refine sw_callVV X (o := 63) (As := (fun g => [])) sw_cl6 (show sw_kd 63 = 6 from rfl) ws_X6_layTried (by omega) (c_X6_layTried F st c14) rfl rfl (Nat.le_of_ble_eq_true rfl) wm_X6_187 dX6_check_94 ?_
            refine sw_iconst X (v := 0) (by decide) dX6_check_97 ?_
            refine sw_istore_n X [(2, .int 0), (0, .ref (g.1 63)), (1, .int a1)] rfl (by decide) rfl dX6_check_98 ?_
            refine sw_sub [1, 2, 0] rfl ?_
            refine lz2_E (fun (x16 : Int32) (s17 : sw_St) => sw_V p l e 5 s m args below meth c g (sw_A g s.heap.size) (sw_QI below g args s r st1) 4 99 [(0, .ref (g.1 63)), (1, .int a1), (2, .int x16)] [] s17) h (fun f18 ih19 x16 s17 h => ?_)
            refine sw_iload_n X 2 rfl rfl dX6_check_99 ?_
            refine sw_aload_n X 0 rfl rfl dX6_check_100 ?_
            refine sw_getR X sw_cl6 (show sw_kd 63 = 6 from rfl) (k := 5) rfl (by decide) (o1 := 68) rfl wf_X6_22 dX6_check_101 ?_
            refine sw_iload_n X 1 rfl rfl dX6_check_104 ?_
            obtain ⟨q20, h⟩ := bnd_E h
            refine sw_iald X (show sw_kd 68 = 8 from rfl) (n := 6) rfl q20 dX6_check_105 ?_
            refine sw_icmp_ge X 178 (by decide) dX6_check_106 (fun q21 => ?_) (fun q21 => ?_)
            · have h := ite_T h q21
              refine sw_bipush X (v := (-9)) (by decide) dX6_check_178 ?_
              exact sw_iret X hr hlk dX6_check_180 h
            · have h := ite_F h q21
              refine sw_aload_n X 0 rfl rfl dX6_check_109 ?_
              refine sw_getR X sw_cl6 (show sw_kd 63 = 6 from rfl) (k := 6) rfl (by decide) (o1 := 69) rfl wf_X6_25 dX6_check_110 ?_
              refine sw_bipush X (v := 40) (by decide) dX6_check_113 ?_
              refine sw_iload_n X 1 rfl rfl dX6_check_115 ?_
              refine sw_imul X dX6_check_116 ?_
              refine sw_iload_n X 2 rfl rfl dX6_check_117 ?_
              refine sw_iadd X dX6_check_118 ?_
              obtain ⟨q22, h⟩ := bnd_E h
              refine sw_iald X (show sw_kd 69 = 8 from rfl) (n := 240) rfl q22 dX6_check_119 ?_
              refine sw_topi (fun x23 ex23 => ?_)
              have h := nm_E h ex23
              refine sw_istore_n X [(3, .int x23), (0, .ref (g.1 63)), (1, .int a1), (2, .int x16)] rfl (by decide) rfl dX6_check_120 ?_
              refine sw_aload_n X 1 rfl rfl dX6_check_121 ?_
              refine sw_sipush X (v := 828) (by decide) dX6_check_122 ?_
              refine sw_iload_n X 0 rfl rfl dX6_check_125 ?_
              obtain ⟨r25, c24, h⟩ := bo_E h
              refine sw_callVI X (o := 63) (As := (fun g => [.int 828, .int x23])) sw_cl6 (show sw_kd 63 = 6 from rfl) ws_X6_isIn (by omega) (c_X6_isIn F 828 x23 s17 c24) rfl rfl (Nat.le_of_ble_eq_true rfl) wm_X6_167 dX6_check_126 ?_
              refine sw_if_eq X 136 (by decide) dX6_check_129 (fun q26 => ?_) (fun q26 => ?_)
              · have h := ite_T h q26
                refine sw_aload_n X 1 rfl rfl dX6_check_136 ?_
                refine sw_sipush X (v := 828) (by decide) dX6_check_137 ?_
                refine sw_iload_n X 0 rfl rfl dX6_check_140 ?_
                obtain ⟨u33, s28, c27, h⟩ := bd_E h
                refine sw_callVV X (o := 63) (As := (fun g => [.int 828, .int x23])) sw_cl6 (show sw_kd 63 = 6 from rfl) ws_X6_comesIn (by omega) (c_X6_comesIn F 828 x23 s17 c27) rfl rfl (Nat.le_of_ble_eq_true rfl) wm_X6_152 dX6_check_141 ?_
                refine sw_aload_n X 1 rfl rfl dX6_check_144 ?_
                refine sw_getR X sw_cl6 (show sw_kd 63 = 6 from rfl) (k := 0) rfl (by decide) (o1 := 64) rfl wf_X6_7 dX6_check_145 ?_
                refine sw_sipush X (v := 829) (by decide) dX6_check_148 ?_
                refine sw_iald X (show sw_kd 64 = 8 from rfl) (n := 835) rfl (i := 829) (by unfold vp_in; decide) dX6_check_151 ?_
                refine sw_aload_n X 1 rfl rfl dX6_check_152 ?_
                refine sw_getR X sw_cl6 (show sw_kd 63 = 6 from rfl) (k := 6) rfl (by decide) (o1 := 69) rfl wf_X6_25 dX6_check_153 ?_
                refine sw_bipush X (v := 40) (by decide) dX6_check_156 ?_
                refine sw_iload_n X 2 rfl rfl dX6_check_158 ?_
                refine sw_imul X dX6_check_159 ?_
                refine sw_iload_n X 3 rfl rfl dX6_check_160 ?_
                refine sw_iadd X dX6_check_161 ?_
                refine sw_iconst X (v := 1) (by decide) dX6_check_162 ?_
                refine sw_iadd X dX6_check_163 ?_
                obtain ⟨q30, h⟩ := bnd_E h
                refine sw_iald X (show sw_kd 69 = 8 from rfl) (n := 240) rfl q30 dX6_check_164 ?_
                refine sw_icmp_eq X 172 (by decide) dX6_check_165 (fun q31 => ?_) (fun q31 => ?_)
                · have h := ite_T h q31
                  obtain ⟨x32, ex32⟩ : ∃ y : Int32, y = x16 + 2 := ⟨_, rfl⟩
                  have h := nm_E h ex32
                  refine sw_iinc X 3 x32 [(2, .int x32), (3, .int x23), (0, .ref (g.1 63)), (1, .int a1)] rfl (by rw [ex32]; rfl) (by decide) rfl dX6_check_172 ?_
                  refine sw_goto X 99 (by decide) dX6_check_175 ?_
                  refine sw_sub [2, 3, 0] rfl ?_
                  exact ih19 _ _ h
                · have h := ite_F h q31
                  refine sw_iload_n X 3 rfl rfl dX6_check_168 ?_
                  refine sw_iconst X (v := 2) (by decide) dX6_check_169 ?_
                  refine sw_idiv X (by decide) dX6_check_170 ?_
                  exact sw_iret X hr hlk dX6_check_171 h
              · have h := ite_F h q26
                refine sw_iload_n X 3 rfl rfl dX6_check_132 ?_
                refine sw_iconst X (v := 2) (by decide) dX6_check_133 ?_
                refine sw_idiv X (by decide) dX6_check_134 ?_
                exact sw_iret X hr hlk dX6_check_135 h
          · have h := ite_F h q13
            refine sw_aload_n X 0 rfl rfl dX6_check_63 ?_
            refine sw_aload_n X 0 rfl rfl dX6_check_64 ?_
            refine sw_getR X sw_cl6 (show sw_kd 63 = 6 from rfl) (k := 6) rfl (by decide) (o1 := 69) rfl wf_X6_25 dX6_check_65 ?_
            refine sw_bipush X (v := 40) (by decide) dX6_check_68 ?_
            refine sw_iload_n X 1 rfl rfl dX6_check_70 ?_
            refine sw_imul X dX6_check_71 ?_
            refine sw_iload_n X 2 rfl rfl dX6_check_72 ?_
            refine sw_iadd X dX6_check_73 ?_
            obtain ⟨q35, h⟩ := bnd_E h
            refine sw_iald X (show sw_kd 69 = 8 from rfl) (n := 240) rfl q35 dX6_check_74 ?_
            obtain ⟨r37, c36, h⟩ := bo_E h
            refine sw_callVI X (o := 63) (As := (fun g => [.int (st.1 69 (((40 * a1) + x9) : Int32).toNatClampNeg)])) sw_cl6 (show sw_kd 63 = 6 from rfl) ws_X6_isStranger (by omega) (c_X6_isStranger F (st.1 69 (((40 * a1) + x9) : Int32).toNatClampNeg) st c36) rfl rfl (Nat.le_of_ble_eq_true rfl) wm_X6_155 dX6_check_75 ?_
            refine sw_if_ne X 87 (by decide) dX6_check_78 (fun q38 => ?_) (fun q38 => ?_)
            · have h := ite_F h q38
              obtain ⟨x39, ex39⟩ : ∃ y : Int32, y = x9 + 2 := ⟨_, rfl⟩
              have h := nm_E h ex39
              refine sw_iinc X 2 x39 [(2, .int x39), (0, .ref (g.1 63)), (1, .int a1)] rfl (by rw [ex39]; rfl) (by decide) rfl dX6_check_87 ?_
              refine sw_goto X 53 (by decide) dX6_check_90 ?_
              refine sw_sub [1, 2, 0] rfl ?_
              exact ih11 _ h
            · have h := ite_T h q38
              refine sw_aload_n X 0 rfl rfl dX6_check_81 ?_
              refine sw_iconst X (v := 3) (by decide) dX6_check_82 ?_
              obtain ⟨r41, s42, c40, h⟩ := bd_E h
              refine sw_callVI X (o := 63) (As := (fun g => [.int 3])) sw_cl6 (show sw_kd 63 = 6 from rfl) ws_X6_find (by omega) (c_X6_find F 3 st c40) rfl rfl (Nat.le_of_ble_eq_true rfl) wm_X6_73 dX6_check_83 ?_
              exact sw_iret X hr hlk dX6_check_86 h
        · have h := ite_F h q8
          refine sw_aload_n X 0 rfl rfl dX6_check_45 ?_
          refine sw_iconst X (v := 5) (by decide) dX6_check_46 ?_
          obtain ⟨r44, s45, c43, h⟩ := bd_E h
          refine sw_callVI X (o := 63) (As := (fun g => [.int 5])) sw_cl6 (show sw_kd 63 = 6 from rfl) ws_X6_find (by omega) (c_X6_find F 5 st c43) rfl rfl (Nat.le_of_ble_eq_true rfl) wm_X6_73 dX6_check_47 ?_
          exact sw_iret X hr hlk dX6_check_50 h
      · have h := ite_F h q6
        refine sw_aload_n X 0 rfl rfl dX6_check_28 ?_
        refine sw_iconst X (v := 1) (by decide) dX6_check_29 ?_
        obtain ⟨r47, s48, c46, h⟩ := bd_E h
        refine sw_callVI X (o := 63) (As := (fun g => [.int 1])) sw_cl6 (show sw_kd 63 = 6 from rfl) ws_X6_find (by omega) (c_X6_find F 1 st c46) rfl rfl (Nat.le_of_ble_eq_true rfl) wm_X6_73 dX6_check_30 ?_
        exact sw_iret X hr hlk dX6_check_33 h
    · have h := ite_T h q4
      refine sw_bipush X (v := (-4)) (by decide) dX6_check_16 ?_
      exact sw_iret X hr hlk dX6_check_18 h
  · have h := ite_T h q3
    refine sw_iconst X (v := (-1)) (by decide) dX6_check_7 ?_
    exact sw_iret X hr hlk dX6_check_8 h
theorem dX6_tellParts_0 : decode cX6_tellParts 0 = .ok (.lload_n 1, 1) := by decide +kernel
theorem dX6_tellParts_1 : decode cX6_tellParts 1 = .ok (.lstore 5, 2) := by decide +kernel
theorem dX6_tellParts_3 : decode cX6_tellParts 3 = .ok (.lload_n 3, 1) := by decide +kernel
theorem dX6_tellParts_4 : decode cX6_tellParts 4 = .ok (.lstore 7, 2) := by decide +kernel
theorem dX6_tellParts_6 : decode cX6_tellParts 6 = .ok (.lload 7, 2) := by decide +kernel
theorem dX6_tellParts_8 : decode cX6_tellParts 8 = .ok (.lconst 0, 1) := by decide +kernel
theorem dX6_tellParts_9 : decode cX6_tellParts 9 = .ok (.lcmp, 1) := by decide +kernel
theorem dX6_tellParts_10 : decode cX6_tellParts 10 = .ok (.ifCond .eq 21, 3) := by decide +kernel
theorem dX6_tellParts_13 : decode cX6_tellParts 13 = .ok (.lload 5, 2) := by decide +kernel
theorem dX6_tellParts_15 : decode cX6_tellParts 15 = .ok (.lload 7, 2) := by decide +kernel
theorem dX6_tellParts_17 : decode cX6_tellParts 17 = .ok (.lrem, 1) := by decide +kernel
theorem dX6_tellParts_18 : decode cX6_tellParts 18 = .ok (.lstore 9, 2) := by decide +kernel
theorem dX6_tellParts_20 : decode cX6_tellParts 20 = .ok (.lload 7, 2) := by decide +kernel
theorem dX6_tellParts_22 : decode cX6_tellParts 22 = .ok (.lstore 5, 2) := by decide +kernel
theorem dX6_tellParts_24 : decode cX6_tellParts 24 = .ok (.lload 9, 2) := by decide +kernel
theorem dX6_tellParts_26 : decode cX6_tellParts 26 = .ok (.lstore 7, 2) := by decide +kernel
theorem dX6_tellParts_28 : decode cX6_tellParts 28 = .ok (.goto (-22), 3) := by decide +kernel
theorem dX6_tellParts_31 : decode cX6_tellParts 31 = .ok (.aload_n 0, 1) := by decide +kernel
theorem dX6_tellParts_32 : decode cX6_tellParts 32 = .ok (.lload_n 1, 1) := by decide +kernel
theorem dX6_tellParts_33 : decode cX6_tellParts 33 = .ok (.lload 5, 2) := by decide +kernel
theorem dX6_tellParts_35 : decode cX6_tellParts 35 = .ok (.ldiv, 1) := by decide +kernel
theorem dX6_tellParts_36 : decode cX6_tellParts 36 = .ok (.putfield 229, 3) := by decide +kernel
theorem dX6_tellParts_39 : decode cX6_tellParts 39 = .ok (.aload_n 0, 1) := by decide +kernel
theorem dX6_tellParts_40 : decode cX6_tellParts 40 = .ok (.lload_n 3, 1) := by decide +kernel
theorem dX6_tellParts_41 : decode cX6_tellParts 41 = .ok (.lload 5, 2) := by decide +kernel
theorem dX6_tellParts_43 : decode cX6_tellParts 43 = .ok (.ldiv, 1) := by decide +kernel
theorem dX6_tellParts_44 : decode cX6_tellParts 44 = .ok (.putfield 34, 3) := by decide +kernel
theorem dX6_tellParts_47 : decode cX6_tellParts 47 = .ok (.iconst 1, 1) := by decide +kernel
theorem dX6_tellParts_48 : decode cX6_tellParts 48 = .ok (.ireturn, 1) := by decide +kernel
def j_X6_tellParts (F : Nat) (a1 : Int64) (a2 : Int64) (st : sw_St) : Option (Int32 × sw_St) :=
lz2 (fun f3 (x1 : Int64) (x2 : Int64) =>
 (if (lg_cmp x2 0) = 0 then (
  grd (¬ x1 = 0) (
  nm (sw_setJ st 63 10 (a1 / x1)) (fun (s7 : sw_St) =>
  grd (¬ x1 = 0) (
  nm (sw_setJ s7 63 11 (a2 / x1)) (fun (s9 : sw_St) =>
  some ((1 : Int32), s9))))))
 else (
  grd (¬ x2 = 0) (
  nm (x1 - x1 / x2 * x2) (fun (x11 : Int64) =>
  f3 x2 x11))))) F a1 a2
set_option maxHeartbeats 4000000 in
set_option maxRecDepth 100000 in
theorem c_X6_tellParts (F : Nat) (a1 : Int64) (a2 : Int64) (st : sw_St) {r : Int32} {st1 : sw_St} (h : j_X6_tellParts F a1 a2 st = some (r, st1)) : sw_CI yX6_tellParts (.code yX6_tellParts cX6_tellParts 11 (some .int)) 1 (fun g => [.ref (g.1 63), .long a1, .long a2]) st r st1 := by
  refine sw_entI RX6 (fun g => [(0, .ref (g.1 63)), (1, .long a1), (3, .long a2)]) (by decide) rfl (fun _ => Nat.le_of_ble_eq_true rfl) (fun _ => rfl) ?_
  intro p l e s m args below meth c g X hr hlk
  unfold j_X6_tellParts at h
  refine sw_lload_n X 1 rfl rfl dX6_tellParts_0 ?_
  refine sw_lstore X [(5, .long a1), (0, .ref (g.1 63)), (1, .long a1), (3, .long a2)] (by decide) rfl dX6_tellParts_1 ?_
  refine sw_lload_n X 3 rfl rfl dX6_tellParts_3 ?_
  refine sw_lstore X [(7, .long a2), (5, .long a1), (0, .ref (g.1 63)), (1, .long a1), (3, .long a2)] (by decide) rfl dX6_tellParts_4 ?_
  refine sw_sub [2, 3, 4, 1, 0] rfl ?_
  refine lz2_E (fun (x1 : Int64) (x2 : Int64) => sw_V p l e 1 s m args below meth c g (sw_A g s.heap.size) (sw_QI below g args s r st1) 11 6 [(0, .ref (g.1 63)), (1, .long a1), (3, .long a2), (5, .long x1), (7, .long x2)] [] st) h (fun f3 ih4 x1 x2 h => ?_)
  refine sw_lload X 4 rfl dX6_tellParts_6 ?_
  refine sw_lconst X (v := 0) (by decide) dX6_tellParts_8 ?_
  refine sw_lcmp X dX6_tellParts_9 ?_
  refine sw_if_eq X 31 (by decide) dX6_tellParts_10 (fun q5 => ?_) (fun q5 => ?_)
  · have h := ite_T h q5
    refine sw_aload_n X 0 rfl rfl dX6_tellParts_31 ?_
    refine sw_lload_n X 1 rfl rfl dX6_tellParts_32 ?_
    refine sw_lload X 3 rfl dX6_tellParts_33 ?_
    obtain ⟨q6, h⟩ := grd_E h
    refine sw_ldiv X q6 dX6_tellParts_35 ?_
    refine sw_putL X sw_cl6 (show sw_kd 63 = 6 from rfl) (k := 10) rfl (by decide) rfl rfl wf_X6_229 dX6_tellParts_36 (fun s7 es7 => ?_)
    have h := nm_E h es7
    refine sw_aload_n X 0 rfl rfl dX6_tellParts_39 ?_
    refine sw_lload_n X 2 rfl rfl dX6_tellParts_40 ?_
    refine sw_lload X 3 rfl dX6_tellParts_41 ?_
    obtain ⟨q8, h⟩ := grd_E h
    refine sw_ldiv X q8 dX6_tellParts_43 ?_
    refine sw_putL X sw_cl6 (show sw_kd 63 = 6 from rfl) (k := 11) rfl (by decide) rfl rfl wf_X6_34 dX6_tellParts_44 (fun s9 es9 => ?_)
    have h := nm_E h es9
    refine sw_iconst X (v := 1) (by decide) dX6_tellParts_47 ?_
    exact sw_iret X hr hlk dX6_tellParts_48 h
  · have h := ite_F h q5
    refine sw_lload X 3 rfl dX6_tellParts_13 ?_
    refine sw_lload X 4 rfl dX6_tellParts_15 ?_
    obtain ⟨q10, h⟩ := grd_E h
    refine sw_lrem X q10 dX6_tellParts_17 ?_
    refine sw_topl (fun x11 ex11 => ?_)
    have h := nm_E h ex11
    refine sw_lstore X [(9, .long x11), (0, .ref (g.1 63)), (1, .long a1), (3, .long a2), (5, .long x1), (7, .long x2)] (by decide) rfl dX6_tellParts_18 ?_
    refine sw_lload X 5 rfl dX6_tellParts_20 ?_
    refine sw_lstore X [(5, .long x2), (9, .long x11), (0, .ref (g.1 63)), (1, .long a1), (3, .long a2), (7, .long x2)] (by decide) rfl dX6_tellParts_22 ?_
    refine sw_lload X 1 rfl dX6_tellParts_24 ?_
    refine sw_lstore X [(7, .long x11), (5, .long x2), (9, .long x11), (0, .ref (g.1 63)), (1, .long a1), (3, .long a2)] (by decide) rfl dX6_tellParts_26 ?_
    refine sw_goto X 6 (by decide) dX6_tellParts_28 ?_
    refine sw_sub [3, 4, 5, 1, 0] rfl ?_
    exact ih4 _ _ h
theorem dX6_waysOf_0 : decode cX6_waysOf 0 = .ok (.aload_n 0, 1) := by decide +kernel
theorem dX6_waysOf_1 : decode cX6_waysOf 1 = .ok (.iload_n 1, 1) := by decide +kernel
theorem dX6_waysOf_2 : decode cX6_waysOf 2 = .ok (.invokevirtual 204, 3) := by decide +kernel
theorem dX6_waysOf_5 : decode cX6_waysOf 5 = .ok (.ifCond .eq 7, 3) := by decide +kernel
theorem dX6_waysOf_8 : decode cX6_waysOf 8 = .ok (.lconst 1, 1) := by decide +kernel
theorem dX6_waysOf_9 : decode cX6_waysOf 9 = .ok (.goto 4, 3) := by decide +kernel
theorem dX6_waysOf_12 : decode cX6_waysOf 12 = .ok (.lconst 0, 1) := by decide +kernel
theorem dX6_waysOf_13 : decode cX6_waysOf 13 = .ok (.lstore_n 3, 1) := by decide +kernel
theorem dX6_waysOf_14 : decode cX6_waysOf 14 = .ok (.iconst 0, 1) := by decide +kernel
theorem dX6_waysOf_15 : decode cX6_waysOf 15 = .ok (.istore 5, 2) := by decide +kernel
theorem dX6_waysOf_17 : decode cX6_waysOf 17 = .ok (.iload 5, 2) := by decide +kernel
theorem dX6_waysOf_19 : decode cX6_waysOf 19 = .ok (.aload_n 0, 1) := by decide +kernel
theorem dX6_waysOf_20 : decode cX6_waysOf 20 = .ok (.getfield 136, 3) := by decide +kernel
theorem dX6_waysOf_23 : decode cX6_waysOf 23 = .ok (.if_icmp .ge 47, 3) := by decide +kernel
theorem dX6_waysOf_26 : decode cX6_waysOf 26 = .ok (.lload_n 3, 1) := by decide +kernel
theorem dX6_waysOf_27 : decode cX6_waysOf 27 = .ok (.aload_n 0, 1) := by decide +kernel
theorem dX6_waysOf_28 : decode cX6_waysOf 28 = .ok (.invokevirtual 201, 3) := by decide +kernel
theorem dX6_waysOf_31 : decode cX6_waysOf 31 = .ok (.iload 5, 2) := by decide +kernel
theorem dX6_waysOf_33 : decode cX6_waysOf 33 = .ok (.invokestatic 139, 3) := by decide +kernel
theorem dX6_waysOf_36 : decode cX6_waysOf 36 = .ok (.ifCond .ne 7, 3) := by decide +kernel
theorem dX6_waysOf_39 : decode cX6_waysOf 39 = .ok (.lconst 1, 1) := by decide +kernel
theorem dX6_waysOf_40 : decode cX6_waysOf 40 = .ok (.goto 22, 3) := by decide +kernel
theorem dX6_waysOf_43 : decode cX6_waysOf 43 = .ok (.iload_n 1, 1) := by decide +kernel
theorem dX6_waysOf_44 : decode cX6_waysOf 44 = .ok (.iload 5, 2) := by decide +kernel
theorem dX6_waysOf_46 : decode cX6_waysOf 46 = .ok (.invokestatic 139, 3) := by decide +kernel
theorem dX6_waysOf_49 : decode cX6_waysOf 49 = .ok (.ifCond .eq 8, 3) := by decide +kernel
theorem dX6_waysOf_52 : decode cX6_waysOf 52 = .ok (.iload_n 2, 1) := by decide +kernel
theorem dX6_waysOf_53 : decode cX6_waysOf 53 = .ok (.i2l, 1) := by decide +kernel
theorem dX6_waysOf_54 : decode cX6_waysOf 54 = .ok (.goto 8, 3) := by decide +kernel
theorem dX6_waysOf_57 : decode cX6_waysOf 57 = .ok (.bipush 12, 2) := by decide +kernel
theorem dX6_waysOf_59 : decode cX6_waysOf 59 = .ok (.iload_n 2, 1) := by decide +kernel
theorem dX6_waysOf_60 : decode cX6_waysOf 60 = .ok (.isub, 1) := by decide +kernel
theorem dX6_waysOf_61 : decode cX6_waysOf 61 = .ok (.i2l, 1) := by decide +kernel
theorem dX6_waysOf_62 : decode cX6_waysOf 62 = .ok (.lmul, 1) := by decide +kernel
theorem dX6_waysOf_63 : decode cX6_waysOf 63 = .ok (.lstore_n 3, 1) := by decide +kernel
theorem dX6_waysOf_64 : decode cX6_waysOf 64 = .ok (.iinc 5 1, 3) := by decide +kernel
theorem dX6_waysOf_67 : decode cX6_waysOf 67 = .ok (.goto (-50), 3) := by decide +kernel
theorem dX6_waysOf_70 : decode cX6_waysOf 70 = .ok (.lload_n 3, 1) := by decide +kernel
theorem dX6_waysOf_71 : decode cX6_waysOf 71 = .ok (.lreturn, 1) := by decide +kernel
def j_X6_waysOf (F : Nat) (a1 : Int32) (a2 : Int32) (st : sw_St) : Option Int64 :=
bo (j_X6_isOut F a1 st) (fun (r2 : Int32) =>
jn (fun (x3 : Int64) => 
  lz2 (fun f8 (x6 : Int64) (x7 : Int32) =>
   (if (st.1 63 1) ≤ x7 then (
    some (x6 : Int64))
   else (
    bo (j_X6_out F st) (fun (r12 : Int32) =>
    bo (j_X6_has F r12 x7 st) (fun (r14 : Int32) =>
    jn (fun (x15 : Int64) => 
      nm (x6 * x15) (fun (x18 : Int64) =>
      nm (x7 + 1) (fun (x19 : Int32) =>
      f8 x18 x19))) (fun k16 =>
     (if r14 = 0 then (
      k16 1)
     else (
      bo (j_X6_has F a1 x7 st) (fun (r22 : Int32) =>
      (if r22 = 0 then (
       k16 (((12 - a2) : Int32).toInt64))
      else (
       k16 ((a2 : Int32).toInt64)))))))))))) F x3 0) (fun k4 =>
 (if r2 = 0 then (
  k4 0)
 else (
  k4 1))))
set_option maxHeartbeats 4000000 in
set_option maxRecDepth 100000 in
theorem c_X6_waysOf (F : Nat) (a1 : Int32) (a2 : Int32) (st : sw_St) {r : Int64} (h : j_X6_waysOf F a1 a2 st = some r) : sw_CL yX6_waysOf (.code yX6_waysOf cX6_waysOf 6 (some .long)) 3 (fun g => [.ref (g.1 63), .int a1, .int a2]) st r st := by
  refine sw_entL RX6 (fun g => [(0, .ref (g.1 63)), (1, .int a1), (2, .int a2)]) (by decide) rfl (fun _ => Nat.le_of_ble_eq_true rfl) (fun _ => rfl) ?_
  intro p l e s m args below meth c g X hr hlk
  unfold j_X6_waysOf at h
  refine sw_aload_n X 0 rfl rfl dX6_waysOf_0 ?_
  refine sw_iload_n X 1 rfl rfl dX6_waysOf_1 ?_
  obtain ⟨r2, c1, h⟩ := bo_E h
  refine sw_callVI X (o := 63) (As := (fun g => [.int a1])) sw_cl6 (show sw_kd 63 = 6 from rfl) ws_X6_isOut (by omega) (c_X6_isOut F a1 st c1) rfl rfl (Nat.le_of_ble_eq_true rfl) wm_X6_204 dX6_waysOf_2 ?_
  refine jn1_E (fun (x3 : Int64) => sw_V p l e 3 s m args below meth c g (sw_A g s.heap.size) (sw_QL below g args s r st) 6 13 [(0, .ref (g.1 63)), (1, .int a1), (2, .int a2)] [.long x3] st) h (fun x3 h => ?_) (fun k4 J5 h => ?_)
  · refine sw_lstore_n X [(3, .long x3), (0, .ref (g.1 63)), (1, .int a1), (2, .int a2)] rfl (by decide) rfl dX6_waysOf_13 ?_
    refine sw_iconst X (v := 0) (by decide) dX6_waysOf_14 ?_
    refine sw_istore X [(5, .int 0), (3, .long x3), (0, .ref (g.1 63)), (1, .int a1), (2, .int a2)] (by decide) rfl dX6_waysOf_15 ?_
    refine sw_sub [2, 3, 4, 1, 0] rfl ?_
    refine lz2_E (fun (x6 : Int64) (x7 : Int32) => sw_V p l e 3 s m args below meth c g (sw_A g s.heap.size) (sw_QL below g args s r st) 6 17 [(0, .ref (g.1 63)), (1, .int a1), (2, .int a2), (3, .long x6), (5, .int x7)] [] st) h (fun f8 ih9 x6 x7 h => ?_)
    refine sw_iload X 4 rfl dX6_waysOf_17 ?_
    refine sw_aload_n X 0 rfl rfl dX6_waysOf_19 ?_
    refine sw_getI X sw_cl6 (show sw_kd 63 = 6 from rfl) (k := 1) rfl (by decide) wf_X6_136 dX6_waysOf_20 ?_
    refine sw_icmp_ge X 70 (by decide) dX6_waysOf_23 (fun q10 => ?_) (fun q10 => ?_)
    · have h := ite_T h q10
      refine sw_lload_n X 3 rfl rfl dX6_waysOf_70 ?_
      exact sw_lret X hr hlk dX6_waysOf_71 (by cases h; rfl)
    · have h := ite_F h q10
      refine sw_lload_n X 3 rfl rfl dX6_waysOf_26 ?_
      refine sw_aload_n X 0 rfl rfl dX6_waysOf_27 ?_
      obtain ⟨r12, c11, h⟩ := bo_E h
      refine sw_callVI X (o := 63) (As := (fun g => [])) sw_cl6 (show sw_kd 63 = 6 from rfl) ws_X6_out (by omega) (c_X6_out F st c11) rfl rfl (Nat.le_of_ble_eq_true rfl) wm_X6_201 dX6_waysOf_28 ?_
      refine sw_iload X 4 rfl dX6_waysOf_31 ?_
      obtain ⟨r14, c13, h⟩ := bo_E h
      refine sw_callSI X (As := (fun g => [.int r12, .int x7])) ws_X6_has (by omega) (c_X6_has F r12 x7 st c13) rfl rfl (Nat.le_of_ble_eq_true rfl) wm_X6_139 dX6_waysOf_33 ?_
      refine jn1_E (fun (x15 : Int64) => sw_V p l e 3 s m args below meth c g (sw_A g s.heap.size) (sw_QL below g args s r st) 6 62 [(0, .ref (g.1 63)), (1, .int a1), (2, .int a2), (5, .int x7)] [.long x15, .long x6] st) h (fun x15 h => ?_) (fun k16 J17 h => ?_)
      · refine sw_lmul X dX6_waysOf_62 ?_
        refine sw_topl (fun x18 ex18 => ?_)
        have h := nm_E h ex18
        refine sw_lstore_n X [(3, .long x18), (0, .ref (g.1 63)), (1, .int a1), (2, .int a2), (5, .int x7)] rfl (by decide) rfl dX6_waysOf_63 ?_
        obtain ⟨x19, ex19⟩ : ∃ y : Int32, y = x7 + 1 := ⟨_, rfl⟩
        have h := nm_E h ex19
        refine sw_iinc X 4 x19 [(5, .int x19), (3, .long x18), (0, .ref (g.1 63)), (1, .int a1), (2, .int a2)] rfl (by rw [ex19]; rfl) (by decide) rfl dX6_waysOf_64 ?_
        refine sw_goto X 17 (by decide) dX6_waysOf_67 ?_
        refine sw_sub [2, 3, 4, 1, 0] rfl ?_
        exact ih9 _ _ h
      · refine sw_if_ne X 43 (by decide) dX6_waysOf_36 (fun q20 => ?_) (fun q20 => ?_)
        · have h := ite_F h q20
          refine sw_iload_n X 1 rfl rfl dX6_waysOf_43 ?_
          refine sw_iload X 4 rfl dX6_waysOf_44 ?_
          obtain ⟨r22, c21, h⟩ := bo_E h
          refine sw_callSI X (As := (fun g => [.int a1, .int x7])) ws_X6_has (by omega) (c_X6_has F a1 x7 st c21) rfl rfl (Nat.le_of_ble_eq_true rfl) wm_X6_139 dX6_waysOf_46 ?_
          refine sw_if_eq X 57 (by decide) dX6_waysOf_49 (fun q23 => ?_) (fun q23 => ?_)
          · have h := ite_T h q23
            refine sw_bipush X (v := 12) (by decide) dX6_waysOf_57 ?_
            refine sw_iload_n X 2 rfl rfl dX6_waysOf_59 ?_
            refine sw_isub X dX6_waysOf_60 ?_
            refine sw_i2l X dX6_waysOf_61 ?_
            refine sw_sub [0, 1, 2, 4] rfl ?_
            exact J17 _ h
          · have h := ite_F h q23
            refine sw_iload_n X 2 rfl rfl dX6_waysOf_52 ?_
            refine sw_i2l X dX6_waysOf_53 ?_
            refine sw_goto X 62 (by decide) dX6_waysOf_54 ?_
            refine sw_sub [0, 1, 2, 4] rfl ?_
            exact J17 _ h
        · have h := ite_T h q20
          refine sw_lconst X (v := 1) (by decide) dX6_waysOf_39 ?_
          refine sw_goto X 62 (by decide) dX6_waysOf_40 ?_
          refine sw_sub [0, 1, 2, 4] rfl ?_
          exact J17 _ h
  · refine sw_if_eq X 12 (by decide) dX6_waysOf_5 (fun q24 => ?_) (fun q24 => ?_)
    · have h := ite_T h q24
      refine sw_lconst X (v := 0) (by decide) dX6_waysOf_12 ?_
      exact J5 _ h
    · have h := ite_F h q24
      refine sw_lconst X (v := 1) (by decide) dX6_waysOf_8 ?_
      refine sw_goto X 13 (by decide) dX6_waysOf_9 ?_
      exact J5 _ h
theorem dX6_odds_0 : decode cX6_odds 0 = .ok (.iload_n 1, 1) := by decide +kernel
theorem dX6_odds_1 : decode cX6_odds 1 = .ok (.i2l, 1) := by decide +kernel
theorem dX6_odds_2 : decode cX6_odds 2 = .ok (.lconst 0, 1) := by decide +kernel
theorem dX6_odds_3 : decode cX6_odds 3 = .ok (.ldc2_w 259, 3) := by decide +kernel
theorem dX6_odds_6 : decode cX6_odds 6 = .ok (.invokestatic 63, 3) := by decide +kernel
theorem dX6_odds_9 : decode cX6_odds 9 = .ok (.ifCond .eq 15, 3) := by decide +kernel
theorem dX6_odds_12 : decode cX6_odds 12 = .ok (.iload_n 2, 1) := by decide +kernel
theorem dX6_odds_13 : decode cX6_odds 13 = .ok (.i2l, 1) := by decide +kernel
theorem dX6_odds_14 : decode cX6_odds 14 = .ok (.lconst 0, 1) := by decide +kernel
theorem dX6_odds_15 : decode cX6_odds 15 = .ok (.ldc2_w 259, 3) := by decide +kernel
theorem dX6_odds_18 : decode cX6_odds 18 = .ok (.invokestatic 63, 3) := by decide +kernel
theorem dX6_odds_21 : decode cX6_odds 21 = .ok (.ifCond .ne 5, 3) := by decide +kernel
theorem dX6_odds_24 : decode cX6_odds 24 = .ok (.iconst (-1), 1) := by decide +kernel
theorem dX6_odds_25 : decode cX6_odds 25 = .ok (.ireturn, 1) := by decide +kernel
theorem dX6_odds_26 : decode cX6_odds 26 = .ok (.aload_n 0, 1) := by decide +kernel
theorem dX6_odds_27 : decode cX6_odds 27 = .ok (.getfield 136, 3) := by decide +kernel
theorem dX6_odds_30 : decode cX6_odds 30 = .ok (.ifCond .ne 6, 3) := by decide +kernel
theorem dX6_odds_33 : decode cX6_odds 33 = .ok (.bipush (-4), 2) := by decide +kernel
theorem dX6_odds_35 : decode cX6_odds 35 = .ok (.ireturn, 1) := by decide +kernel
theorem dX6_odds_36 : decode cX6_odds 36 = .ok (.lconst 0, 1) := by decide +kernel
theorem dX6_odds_37 : decode cX6_odds 37 = .ok (.lstore_n 3, 1) := by decide +kernel
theorem dX6_odds_38 : decode cX6_odds 38 = .ok (.lconst 0, 1) := by decide +kernel
theorem dX6_odds_39 : decode cX6_odds 39 = .ok (.lstore 5, 2) := by decide +kernel
theorem dX6_odds_41 : decode cX6_odds 41 = .ok (.iconst 0, 1) := by decide +kernel
theorem dX6_odds_42 : decode cX6_odds 42 = .ok (.istore 7, 2) := by decide +kernel
theorem dX6_odds_44 : decode cX6_odds 44 = .ok (.iload 7, 2) := by decide +kernel
theorem dX6_odds_46 : decode cX6_odds 46 = .ok (.bipush 64, 2) := by decide +kernel
theorem dX6_odds_48 : decode cX6_odds 48 = .ok (.if_icmp .ge 59, 3) := by decide +kernel
theorem dX6_odds_51 : decode cX6_odds 51 = .ok (.aload_n 0, 1) := by decide +kernel
theorem dX6_odds_52 : decode cX6_odds 52 = .ok (.iload 7, 2) := by decide +kernel
theorem dX6_odds_54 : decode cX6_odds 54 = .ok (.iload_n 2, 1) := by decide +kernel
theorem dX6_odds_55 : decode cX6_odds 55 = .ok (.invokevirtual 261, 3) := by decide +kernel
theorem dX6_odds_58 : decode cX6_odds 58 = .ok (.lstore 8, 2) := by decide +kernel
theorem dX6_odds_60 : decode cX6_odds 60 = .ok (.lload 8, 2) := by decide +kernel
theorem dX6_odds_62 : decode cX6_odds 62 = .ok (.lconst 0, 1) := by decide +kernel
theorem dX6_odds_63 : decode cX6_odds 63 = .ok (.lcmp, 1) := by decide +kernel
theorem dX6_odds_64 : decode cX6_odds 64 = .ok (.ifCond .le 37, 3) := by decide +kernel
theorem dX6_odds_67 : decode cX6_odds 67 = .ok (.aload_n 0, 1) := by decide +kernel
theorem dX6_odds_68 : decode cX6_odds 68 = .ok (.invokevirtual 187, 3) := by decide +kernel
theorem dX6_odds_71 : decode cX6_odds 71 = .ok (.aload_n 0, 1) := by decide +kernel
theorem dX6_odds_72 : decode cX6_odds 72 = .ok (.iload 7, 2) := by decide +kernel
theorem dX6_odds_74 : decode cX6_odds 74 = .ok (.invokevirtual 197, 3) := by decide +kernel
theorem dX6_odds_77 : decode cX6_odds 77 = .ok (.lload_n 3, 1) := by decide +kernel
theorem dX6_odds_78 : decode cX6_odds 78 = .ok (.aload_n 0, 1) := by decide +kernel
theorem dX6_odds_79 : decode cX6_odds 79 = .ok (.invokevirtual 190, 3) := by decide +kernel
theorem dX6_odds_82 : decode cX6_odds 82 = .ok (.iload_n 1, 1) := by decide +kernel
theorem dX6_odds_83 : decode cX6_odds 83 = .ok (.if_icmp .lt 8, 3) := by decide +kernel
theorem dX6_odds_86 : decode cX6_odds 86 = .ok (.lload 8, 2) := by decide +kernel
theorem dX6_odds_88 : decode cX6_odds 88 = .ok (.goto 4, 3) := by decide +kernel
theorem dX6_odds_91 : decode cX6_odds 91 = .ok (.lconst 0, 1) := by decide +kernel
theorem dX6_odds_92 : decode cX6_odds 92 = .ok (.ladd, 1) := by decide +kernel
theorem dX6_odds_93 : decode cX6_odds 93 = .ok (.lstore_n 3, 1) := by decide +kernel
theorem dX6_odds_94 : decode cX6_odds 94 = .ok (.lload 5, 2) := by decide +kernel
theorem dX6_odds_96 : decode cX6_odds 96 = .ok (.lload 8, 2) := by decide +kernel
theorem dX6_odds_98 : decode cX6_odds 98 = .ok (.ladd, 1) := by decide +kernel
theorem dX6_odds_99 : decode cX6_odds 99 = .ok (.lstore 5, 2) := by decide +kernel
theorem dX6_odds_101 : decode cX6_odds 101 = .ok (.iinc 7 1, 3) := by decide +kernel
theorem dX6_odds_104 : decode cX6_odds 104 = .ok (.goto (-60), 3) := by decide +kernel
theorem dX6_odds_107 : decode cX6_odds 107 = .ok (.aload_n 0, 1) := by decide +kernel
theorem dX6_odds_108 : decode cX6_odds 108 = .ok (.lload_n 3, 1) := by decide +kernel
theorem dX6_odds_109 : decode cX6_odds 109 = .ok (.lload 5, 2) := by decide +kernel
theorem dX6_odds_111 : decode cX6_odds 111 = .ok (.invokevirtual 265, 3) := by decide +kernel
theorem dX6_odds_114 : decode cX6_odds 114 = .ok (.ireturn, 1) := by decide +kernel
def j_X6_odds (F : Nat) (a1 : Int32) (a2 : Int32) (st : sw_St) : Option (Int32 × sw_St) :=
bo (j_X6_in F ((a1 : Int32).toInt64) 0 12 st) (fun (r2 : Int32) =>
jn (
  some (((-1) : Int32), st)) (fun k3 =>
 (if r2 = 0 then (
  k3)
 else (
  bo (j_X6_in F ((a2 : Int32).toInt64) 0 12 st) (fun (r7 : Int32) =>
  (if r7 = 0 then (
   k3)
  else (
   (if (st.1 63 1) = 0 then (
    some (((-4) : Int32), st))
   else (
    lz4 (fun f14 (x10 : Int64) (x11 : Int64) (x12 : Int32) (s13 : sw_St) =>
     (if 64 ≤ x12 then (
      bd (j_X6_tellParts F x10 x11 s13) (fun (r18 : Int32) (s19 : sw_St) =>
      some ((r18 : Int32), s19)))
     else (
      bo (j_X6_waysOf F x12 a2 s13) (fun (r21 : Int64) =>
      jn (fun (x22 : Int64) (x23 : Int64) (s24 : sw_St) => 
        nm (x12 + 1) (fun (x27 : Int32) =>
        f14 x22 x23 x27 s24)) (fun k25 =>
       (if (lg_cmp r21 0) ≤ 0 then (
        k25 x10 x11 s13)
       else (
        bd (j_X6_layTried F s13) (fun (_ : Unit) (s30 : sw_St) =>
        bd (j_X6_comeTried F x12 s30) (fun (_ : Unit) (s32 : sw_St) =>
        bd (j_X6_lastsTried F s32) (fun (r34 : Int32) (s35 : sw_St) =>
        jn (fun (x36 : Int64) => 
          nm (x10 + x36) (fun (x39 : Int64) =>
          nm (x11 + r21) (fun (x40 : Int64) =>
          k25 x39 x40 s35))) (fun k37 =>
         (if r34 < a1 then (
          k37 0)
         else (
          k37 r21))))))))))))) F 0 0 0 st)))))))))
set_option maxHeartbeats 4000000 in
set_option maxRecDepth 100000 in
theorem c_X6_odds (F : Nat) (a1 : Int32) (a2 : Int32) (st : sw_St) {r : Int32} {st1 : sw_St} (h : j_X6_odds F a1 a2 st = some (r, st1)) : sw_CI yX6_odds (.code yX6_odds cX6_odds 10 (some .int)) 6 (fun g => [.ref (g.1 63), .int a1, .int a2]) st r st1 := by
  refine sw_entI RX6 (fun g => [(0, .ref (g.1 63)), (1, .int a1), (2, .int a2)]) (by decide) rfl (fun _ => Nat.le_of_ble_eq_true rfl) (fun _ => rfl) ?_
  intro p l e s m args below meth c g X hr hlk
  unfold j_X6_odds at h
  refine sw_iload_n X 1 rfl rfl dX6_odds_0 ?_
  refine sw_i2l X dX6_odds_1 ?_
  refine sw_lconst X (v := 0) (by decide) dX6_odds_2 ?_
  refine sw_ldc2 X (v := 12) wl_X6_259 dX6_odds_3 ?_
  obtain ⟨r2, c1, h⟩ := bo_E h
  refine sw_callSI X (As := (fun g => [.long ((a1 : Int32).toInt64), .long 0, .long 12])) ws_X6_in (by omega) (c_X6_in F ((a1 : Int32).toInt64) 0 12 st c1) rfl rfl (Nat.le_of_ble_eq_true rfl) wm_X6_63 dX6_odds_6 ?_
  refine jn0_E (sw_V p l e 6 s m args below meth c g (sw_A g s.heap.size) (sw_QI below g args s r st1) 10 24 [] [] st) h (fun h => ?_) (fun k3 J4 h => ?_)
  · refine sw_iconst X (v := (-1)) (by decide) dX6_odds_24 ?_
    exact sw_iret X hr hlk dX6_odds_25 h
  · refine sw_if_eq X 24 (by decide) dX6_odds_9 (fun q5 => ?_) (fun q5 => ?_)
    · have h := ite_T h q5
      refine sw_sub [] rfl ?_
      exact J4  h
    · have h := ite_F h q5
      refine sw_iload_n X 2 rfl rfl dX6_odds_12 ?_
      refine sw_i2l X dX6_odds_13 ?_
      refine sw_lconst X (v := 0) (by decide) dX6_odds_14 ?_
      refine sw_ldc2 X (v := 12) wl_X6_259 dX6_odds_15 ?_
      obtain ⟨r7, c6, h⟩ := bo_E h
      refine sw_callSI X (As := (fun g => [.long ((a2 : Int32).toInt64), .long 0, .long 12])) ws_X6_in (by omega) (c_X6_in F ((a2 : Int32).toInt64) 0 12 st c6) rfl rfl (Nat.le_of_ble_eq_true rfl) wm_X6_63 dX6_odds_18 ?_
      refine sw_if_ne X 26 (by decide) dX6_odds_21 (fun q8 => ?_) (fun q8 => ?_)
      · have h := ite_F h q8
        refine sw_aload_n X 0 rfl rfl dX6_odds_26 ?_
        refine sw_getI X sw_cl6 (show sw_kd 63 = 6 from rfl) (k := 1) rfl (by decide) wf_X6_136 dX6_odds_27 ?_
        refine sw_if_ne X 36 (by decide) dX6_odds_30 (fun q9 => ?_) (fun q9 => ?_)
        · have h := ite_F h q9
          refine sw_lconst X (v := 0) (by decide) dX6_odds_36 ?_
          refine sw_lstore_n X [(3, .long 0), (0, .ref (g.1 63)), (1, .int a1), (2, .int a2)] rfl (by decide) rfl dX6_odds_37 ?_
          refine sw_lconst X (v := 0) (by decide) dX6_odds_38 ?_
          refine sw_lstore X [(5, .long 0), (3, .long 0), (0, .ref (g.1 63)), (1, .int a1), (2, .int a2)] (by decide) rfl dX6_odds_39 ?_
          refine sw_iconst X (v := 0) (by decide) dX6_odds_41 ?_
          refine sw_istore X [(7, .int 0), (5, .long 0), (3, .long 0), (0, .ref (g.1 63)), (1, .int a1), (2, .int a2)] (by decide) rfl dX6_odds_42 ?_
          refine sw_sub [3, 4, 5, 2, 1, 0] rfl ?_
          refine lz4_E (fun (x10 : Int64) (x11 : Int64) (x12 : Int32) (s13 : sw_St) => sw_V p l e 6 s m args below meth c g (sw_A g s.heap.size) (sw_QI below g args s r st1) 10 44 [(0, .ref (g.1 63)), (1, .int a1), (2, .int a2), (3, .long x10), (5, .long x11), (7, .int x12)] [] s13) h (fun f14 ih15 x10 x11 x12 s13 h => ?_)
          refine sw_iload X 5 rfl dX6_odds_44 ?_
          refine sw_bipush X (v := 64) (by decide) dX6_odds_46 ?_
          refine sw_icmp_ge X 107 (by decide) dX6_odds_48 (fun q16 => ?_) (fun q16 => ?_)
          · have h := ite_T h q16
            refine sw_aload_n X 0 rfl rfl dX6_odds_107 ?_
            refine sw_lload_n X 3 rfl rfl dX6_odds_108 ?_
            refine sw_lload X 4 rfl dX6_odds_109 ?_
            obtain ⟨r18, s19, c17, h⟩ := bd_E h
            refine sw_callVI X (o := 63) (As := (fun g => [.long x10, .long x11])) sw_cl6 (show sw_kd 63 = 6 from rfl) ws_X6_tellParts (by omega) (c_X6_tellParts F x10 x11 s13 c17) rfl rfl (Nat.le_of_ble_eq_true rfl) wm_X6_265 dX6_odds_111 ?_
            exact sw_iret X hr hlk dX6_odds_114 h
          · have h := ite_F h q16
            refine sw_aload_n X 0 rfl rfl dX6_odds_51 ?_
            refine sw_iload X 5 rfl dX6_odds_52 ?_
            refine sw_iload_n X 2 rfl rfl dX6_odds_54 ?_
            obtain ⟨r21, c20, h⟩ := bo_E h
            refine sw_callVL X (o := 63) (As := (fun g => [.int x12, .int a2])) sw_cl6 (show sw_kd 63 = 6 from rfl) ws_X6_waysOf (by omega) (c_X6_waysOf F x12 a2 s13 c20) rfl rfl (Nat.le_of_ble_eq_true rfl) wm_X6_261 dX6_odds_55 ?_
            refine sw_lstore X [(8, .long r21), (0, .ref (g.1 63)), (1, .int a1), (2, .int a2), (3, .long x10), (5, .long x11), (7, .int x12)] (by decide) rfl dX6_odds_58 ?_
            refine sw_lload X 0 rfl dX6_odds_60 ?_
            refine sw_lconst X (v := 0) (by decide) dX6_odds_62 ?_
            refine sw_lcmp X dX6_odds_63 ?_
            refine jn3_E (fun (x22 : Int64) (x23 : Int64) (s24 : sw_St) => sw_V p l e 6 s m args below meth c g (sw_A g s.heap.size) (sw_QI below g args s r st1) 10 101 [(0, .ref (g.1 63)), (1, .int a1), (2, .int a2), (3, .long x22), (5, .long x23), (7, .int x12)] [] s24) h (fun x22 x23 s24 h => ?_) (fun k25 J26 h => ?_)
            · obtain ⟨x27, ex27⟩ : ∃ y : Int32, y = x12 + 1 := ⟨_, rfl⟩
              have h := nm_E h ex27
              refine sw_iinc X 5 x27 [(7, .int x27), (0, .ref (g.1 63)), (1, .int a1), (2, .int a2), (3, .long x22), (5, .long x23)] rfl (by rw [ex27]; rfl) (by decide) rfl dX6_odds_101 ?_
              refine sw_goto X 44 (by decide) dX6_odds_104 ?_
              refine sw_sub [1, 2, 3, 4, 5, 0] rfl ?_
              exact ih15 _ _ _ _ h
            · refine sw_if_le X 101 (by decide) dX6_odds_64 (fun q28 => ?_) (fun q28 => ?_)
              · have h := ite_T h q28
                refine sw_sub [1, 2, 3, 4, 5, 6] rfl ?_
                exact J26 _ _ _ h
              · have h := ite_F h q28
                refine sw_aload_n X 1 rfl rfl dX6_odds_67 ?_
                obtain ⟨u43, s30, c29, h⟩ := bd_E h
                refine sw_callVV X (o := 63) (As := (fun g => [])) sw_cl6 (show sw_kd 63 = 6 from rfl) ws_X6_layTried (by omega) (c_X6_layTried F s13 c29) rfl rfl (Nat.le_of_ble_eq_true rfl) wm_X6_187 dX6_odds_68 ?_
                refine sw_aload_n X 1 rfl rfl dX6_odds_71 ?_
                refine sw_iload X 6 rfl dX6_odds_72 ?_
                obtain ⟨u42, s32, c31, h⟩ := bd_E h
                refine sw_callVV X (o := 63) (As := (fun g => [.int x12])) sw_cl6 (show sw_kd 63 = 6 from rfl) ws_X6_comeTried (by omega) (c_X6_comeTried F x12 s30 c31) rfl rfl (Nat.le_of_ble_eq_true rfl) wm_X6_197 dX6_odds_74 ?_
                refine sw_lload_n X 4 rfl rfl dX6_odds_77 ?_
                refine sw_aload_n X 1 rfl rfl dX6_odds_78 ?_
                obtain ⟨r34, s35, c33, h⟩ := bd_E h
                refine sw_callVI X (o := 63) (As := (fun g => [])) sw_cl6 (show sw_kd 63 = 6 from rfl) ws_X6_lastsTried (by omega) (c_X6_lastsTried F s32 c33) rfl rfl (Nat.le_of_ble_eq_true rfl) wm_X6_190 dX6_odds_79 ?_
                refine sw_iload_n X 2 rfl rfl dX6_odds_82 ?_
                refine jn1_E (fun (x36 : Int64) => sw_V p l e 6 s m args below meth c g (sw_A g s.heap.size) (sw_QI below g args s r st1) 10 92 [(0, .ref (g.1 63)), (1, .int a1), (2, .int a2), (5, .long x11), (7, .int x12), (8, .long r21)] [.long x36, .long x10] s35) h (fun x36 h => ?_) (fun k37 J38 h => ?_)
                · refine sw_ladd X dX6_odds_92 ?_
                  refine sw_topl (fun x39 ex39 => ?_)
                  have h := nm_E h ex39
                  refine sw_lstore_n X [(3, .long x39), (0, .ref (g.1 63)), (1, .int a1), (2, .int a2), (5, .long x11), (7, .int x12), (8, .long r21)] rfl (by decide) rfl dX6_odds_93 ?_
                  refine sw_lload X 4 rfl dX6_odds_94 ?_
                  refine sw_lload X 6 rfl dX6_odds_96 ?_
                  refine sw_ladd X dX6_odds_98 ?_
                  refine sw_topl (fun x40 ex40 => ?_)
                  have h := nm_E h ex40
                  refine sw_lstore X [(5, .long x40), (3, .long x39), (0, .ref (g.1 63)), (1, .int a1), (2, .int a2), (7, .int x12), (8, .long r21)] (by decide) rfl dX6_odds_99 ?_
                  refine sw_sub [2, 3, 4, 1, 0, 5] rfl ?_
                  exact J26 _ _ _ h
                · refine sw_icmp_lt X 91 (by decide) dX6_odds_83 (fun q41 => ?_) (fun q41 => ?_)
                  · have h := ite_T h q41
                    refine sw_lconst X (v := 0) (by decide) dX6_odds_91 ?_
                    refine sw_sub [1, 2, 3, 5, 6, 0] rfl ?_
                    exact J38 _ h
                  · have h := ite_F h q41
                    refine sw_lload X 0 rfl dX6_odds_86 ?_
                    refine sw_goto X 92 (by decide) dX6_odds_88 ?_
                    refine sw_sub [1, 2, 3, 5, 6, 0] rfl ?_
                    exact J38 _ h
        · have h := ite_T h q9
          refine sw_bipush X (v := (-4)) (by decide) dX6_odds_33 ?_
          exact sw_iret X hr hlk dX6_odds_35 h
      · have h := ite_T h q8
        refine sw_sub [] rfl ?_
        exact J4  h
theorem dX6_mid_0 : decode cX6_mid 0 = .ok (.iload_n 1, 1) := by decide +kernel
theorem dX6_mid_1 : decode cX6_mid 1 = .ok (.i2l, 1) := by decide +kernel
theorem dX6_mid_2 : decode cX6_mid 2 = .ok (.lconst 0, 1) := by decide +kernel
theorem dX6_mid_3 : decode cX6_mid 3 = .ok (.ldc2_w 259, 3) := by decide +kernel
theorem dX6_mid_6 : decode cX6_mid 6 = .ok (.invokestatic 63, 3) := by decide +kernel
theorem dX6_mid_9 : decode cX6_mid 9 = .ok (.ifCond .ne 5, 3) := by decide +kernel
theorem dX6_mid_12 : decode cX6_mid 12 = .ok (.iconst (-1), 1) := by decide +kernel
theorem dX6_mid_13 : decode cX6_mid 13 = .ok (.ireturn, 1) := by decide +kernel
theorem dX6_mid_14 : decode cX6_mid 14 = .ok (.aload_n 0, 1) := by decide +kernel
theorem dX6_mid_15 : decode cX6_mid 15 = .ok (.getfield 136, 3) := by decide +kernel
theorem dX6_mid_18 : decode cX6_mid 18 = .ok (.ifCond .ne 6, 3) := by decide +kernel
theorem dX6_mid_21 : decode cX6_mid 21 = .ok (.bipush (-4), 2) := by decide +kernel
theorem dX6_mid_23 : decode cX6_mid 23 = .ok (.ireturn, 1) := by decide +kernel
theorem dX6_mid_24 : decode cX6_mid 24 = .ok (.lconst 0, 1) := by decide +kernel
theorem dX6_mid_25 : decode cX6_mid 25 = .ok (.lstore_n 2, 1) := by decide +kernel
theorem dX6_mid_26 : decode cX6_mid 26 = .ok (.lconst 0, 1) := by decide +kernel
theorem dX6_mid_27 : decode cX6_mid 27 = .ok (.lstore 4, 2) := by decide +kernel
theorem dX6_mid_29 : decode cX6_mid 29 = .ok (.iconst 0, 1) := by decide +kernel
theorem dX6_mid_30 : decode cX6_mid 30 = .ok (.istore 6, 2) := by decide +kernel
theorem dX6_mid_32 : decode cX6_mid 32 = .ok (.iload 6, 2) := by decide +kernel
theorem dX6_mid_34 : decode cX6_mid 34 = .ok (.bipush 64, 2) := by decide +kernel
theorem dX6_mid_36 : decode cX6_mid 36 = .ok (.if_icmp .ge 45, 3) := by decide +kernel
theorem dX6_mid_39 : decode cX6_mid 39 = .ok (.aload_n 0, 1) := by decide +kernel
theorem dX6_mid_40 : decode cX6_mid 40 = .ok (.iload 6, 2) := by decide +kernel
theorem dX6_mid_42 : decode cX6_mid 42 = .ok (.iload_n 1, 1) := by decide +kernel
theorem dX6_mid_43 : decode cX6_mid 43 = .ok (.invokevirtual 261, 3) := by decide +kernel
theorem dX6_mid_46 : decode cX6_mid 46 = .ok (.lstore 7, 2) := by decide +kernel
theorem dX6_mid_48 : decode cX6_mid 48 = .ok (.lload 7, 2) := by decide +kernel
theorem dX6_mid_50 : decode cX6_mid 50 = .ok (.lconst 0, 1) := by decide +kernel
theorem dX6_mid_51 : decode cX6_mid 51 = .ok (.lcmp, 1) := by decide +kernel
theorem dX6_mid_52 : decode cX6_mid 52 = .ok (.ifCond .le 23, 3) := by decide +kernel
theorem dX6_mid_55 : decode cX6_mid 55 = .ok (.lload_n 2, 1) := by decide +kernel
theorem dX6_mid_56 : decode cX6_mid 56 = .ok (.lload 7, 2) := by decide +kernel
theorem dX6_mid_58 : decode cX6_mid 58 = .ok (.aload_n 0, 1) := by decide +kernel
theorem dX6_mid_59 : decode cX6_mid 59 = .ok (.iload 6, 2) := by decide +kernel
theorem dX6_mid_61 : decode cX6_mid 61 = .ok (.invokevirtual 207, 3) := by decide +kernel
theorem dX6_mid_64 : decode cX6_mid 64 = .ok (.i2l, 1) := by decide +kernel
theorem dX6_mid_65 : decode cX6_mid 65 = .ok (.lmul, 1) := by decide +kernel
theorem dX6_mid_66 : decode cX6_mid 66 = .ok (.ladd, 1) := by decide +kernel
theorem dX6_mid_67 : decode cX6_mid 67 = .ok (.lstore_n 2, 1) := by decide +kernel
theorem dX6_mid_68 : decode cX6_mid 68 = .ok (.lload 4, 2) := by decide +kernel
theorem dX6_mid_70 : decode cX6_mid 70 = .ok (.lload 7, 2) := by decide +kernel
theorem dX6_mid_72 : decode cX6_mid 72 = .ok (.ladd, 1) := by decide +kernel
theorem dX6_mid_73 : decode cX6_mid 73 = .ok (.lstore 4, 2) := by decide +kernel
theorem dX6_mid_75 : decode cX6_mid 75 = .ok (.iinc 6 1, 3) := by decide +kernel
theorem dX6_mid_78 : decode cX6_mid 78 = .ok (.goto (-46), 3) := by decide +kernel
theorem dX6_mid_81 : decode cX6_mid 81 = .ok (.aload_n 0, 1) := by decide +kernel
theorem dX6_mid_82 : decode cX6_mid 82 = .ok (.lload_n 2, 1) := by decide +kernel
theorem dX6_mid_83 : decode cX6_mid 83 = .ok (.lload 4, 2) := by decide +kernel
theorem dX6_mid_85 : decode cX6_mid 85 = .ok (.invokevirtual 265, 3) := by decide +kernel
theorem dX6_mid_88 : decode cX6_mid 88 = .ok (.ireturn, 1) := by decide +kernel
def j_X6_mid (F : Nat) (a1 : Int32) (st : sw_St) : Option (Int32 × sw_St) :=
bo (j_X6_in F ((a1 : Int32).toInt64) 0 12 st) (fun (r2 : Int32) =>
(if r2 = 0 then (
 some (((-1) : Int32), st))
else (
 (if (st.1 63 1) = 0 then (
  some (((-4) : Int32), st))
 else (
  lz4 (fun f9 (x5 : Int64) (x6 : Int64) (x7 : Int32) (s8 : sw_St) =>
   (if 64 ≤ x7 then (
    bd (j_X6_tellParts F x5 x6 s8) (fun (r13 : Int32) (s14 : sw_St) =>
    some ((r13 : Int32), s14)))
   else (
    bo (j_X6_waysOf F x7 a1 s8) (fun (r16 : Int64) =>
    jn (fun (x17 : Int64) (x18 : Int64) (s19 : sw_St) => 
      nm (x7 + 1) (fun (x22 : Int32) =>
      f9 x17 x18 x22 s19)) (fun k20 =>
     (if (lg_cmp r16 0) ≤ 0 then (
      k20 x5 x6 s8)
     else (
      bd (j_X6_woundBy F x7 s8) (fun (r25 : Int32) (s26 : sw_St) =>
      nm (x5 + (r16 * ((r25 : Int32).toInt64))) (fun (x27 : Int64) =>
      nm (x6 + r16) (fun (x28 : Int64) =>
      k20 x27 x28 s26)))))))))) F 0 0 0 st)))))
set_option maxHeartbeats 4000000 in
set_option maxRecDepth 100000 in
theorem c_X6_mid (F : Nat) (a1 : Int32) (st : sw_St) {r : Int32} {st1 : sw_St} (h : j_X6_mid F a1 st = some (r, st1)) : sw_CI yX6_mid (.code yX6_mid cX6_mid 9 (some .int)) 7 (fun g => [.ref (g.1 63), .int a1]) st r st1 := by
  refine sw_entI RX6 (fun g => [(0, .ref (g.1 63)), (1, .int a1)]) (by decide) rfl (fun _ => Nat.le_of_ble_eq_true rfl) (fun _ => rfl) ?_
  intro p l e s m args below meth c g X hr hlk
  unfold j_X6_mid at h
  refine sw_iload_n X 1 rfl rfl dX6_mid_0 ?_
  refine sw_i2l X dX6_mid_1 ?_
  refine sw_lconst X (v := 0) (by decide) dX6_mid_2 ?_
  refine sw_ldc2 X (v := 12) wl_X6_259 dX6_mid_3 ?_
  obtain ⟨r2, c1, h⟩ := bo_E h
  refine sw_callSI X (As := (fun g => [.long ((a1 : Int32).toInt64), .long 0, .long 12])) ws_X6_in (by omega) (c_X6_in F ((a1 : Int32).toInt64) 0 12 st c1) rfl rfl (Nat.le_of_ble_eq_true rfl) wm_X6_63 dX6_mid_6 ?_
  refine sw_if_ne X 14 (by decide) dX6_mid_9 (fun q3 => ?_) (fun q3 => ?_)
  · have h := ite_F h q3
    refine sw_aload_n X 0 rfl rfl dX6_mid_14 ?_
    refine sw_getI X sw_cl6 (show sw_kd 63 = 6 from rfl) (k := 1) rfl (by decide) wf_X6_136 dX6_mid_15 ?_
    refine sw_if_ne X 24 (by decide) dX6_mid_18 (fun q4 => ?_) (fun q4 => ?_)
    · have h := ite_F h q4
      refine sw_lconst X (v := 0) (by decide) dX6_mid_24 ?_
      refine sw_lstore_n X [(2, .long 0), (0, .ref (g.1 63)), (1, .int a1)] rfl (by decide) rfl dX6_mid_25 ?_
      refine sw_lconst X (v := 0) (by decide) dX6_mid_26 ?_
      refine sw_lstore X [(4, .long 0), (2, .long 0), (0, .ref (g.1 63)), (1, .int a1)] (by decide) rfl dX6_mid_27 ?_
      refine sw_iconst X (v := 0) (by decide) dX6_mid_29 ?_
      refine sw_istore X [(6, .int 0), (4, .long 0), (2, .long 0), (0, .ref (g.1 63)), (1, .int a1)] (by decide) rfl dX6_mid_30 ?_
      refine sw_sub [3, 4, 2, 1, 0] rfl ?_
      refine lz4_E (fun (x5 : Int64) (x6 : Int64) (x7 : Int32) (s8 : sw_St) => sw_V p l e 7 s m args below meth c g (sw_A g s.heap.size) (sw_QI below g args s r st1) 9 32 [(0, .ref (g.1 63)), (1, .int a1), (2, .long x5), (4, .long x6), (6, .int x7)] [] s8) h (fun f9 ih10 x5 x6 x7 s8 h => ?_)
      refine sw_iload X 4 rfl dX6_mid_32 ?_
      refine sw_bipush X (v := 64) (by decide) dX6_mid_34 ?_
      refine sw_icmp_ge X 81 (by decide) dX6_mid_36 (fun q11 => ?_) (fun q11 => ?_)
      · have h := ite_T h q11
        refine sw_aload_n X 0 rfl rfl dX6_mid_81 ?_
        refine sw_lload_n X 2 rfl rfl dX6_mid_82 ?_
        refine sw_lload X 3 rfl dX6_mid_83 ?_
        obtain ⟨r13, s14, c12, h⟩ := bd_E h
        refine sw_callVI X (o := 63) (As := (fun g => [.long x5, .long x6])) sw_cl6 (show sw_kd 63 = 6 from rfl) ws_X6_tellParts (by omega) (c_X6_tellParts F x5 x6 s8 c12) rfl rfl (Nat.le_of_ble_eq_true rfl) wm_X6_265 dX6_mid_85 ?_
        exact sw_iret X hr hlk dX6_mid_88 h
      · have h := ite_F h q11
        refine sw_aload_n X 0 rfl rfl dX6_mid_39 ?_
        refine sw_iload X 4 rfl dX6_mid_40 ?_
        refine sw_iload_n X 1 rfl rfl dX6_mid_42 ?_
        obtain ⟨r16, c15, h⟩ := bo_E h
        refine sw_callVL X (o := 63) (As := (fun g => [.int x7, .int a1])) sw_cl6 (show sw_kd 63 = 6 from rfl) ws_X6_waysOf (by omega) (c_X6_waysOf F x7 a1 s8 c15) rfl rfl (Nat.le_of_ble_eq_true rfl) wm_X6_261 dX6_mid_43 ?_
        refine sw_lstore X [(7, .long r16), (0, .ref (g.1 63)), (1, .int a1), (2, .long x5), (4, .long x6), (6, .int x7)] (by decide) rfl dX6_mid_46 ?_
        refine sw_lload X 0 rfl dX6_mid_48 ?_
        refine sw_lconst X (v := 0) (by decide) dX6_mid_50 ?_
        refine sw_lcmp X dX6_mid_51 ?_
        refine jn3_E (fun (x17 : Int64) (x18 : Int64) (s19 : sw_St) => sw_V p l e 7 s m args below meth c g (sw_A g s.heap.size) (sw_QI below g args s r st1) 9 75 [(0, .ref (g.1 63)), (1, .int a1), (2, .long x17), (4, .long x18), (6, .int x7)] [] s19) h (fun x17 x18 s19 h => ?_) (fun k20 J21 h => ?_)
        · obtain ⟨x22, ex22⟩ : ∃ y : Int32, y = x7 + 1 := ⟨_, rfl⟩
          have h := nm_E h ex22
          refine sw_iinc X 4 x22 [(6, .int x22), (0, .ref (g.1 63)), (1, .int a1), (2, .long x17), (4, .long x18)] rfl (by rw [ex22]; rfl) (by decide) rfl dX6_mid_75 ?_
          refine sw_goto X 32 (by decide) dX6_mid_78 ?_
          refine sw_sub [1, 2, 3, 4, 0] rfl ?_
          exact ih10 _ _ _ _ h
        · refine sw_if_le X 75 (by decide) dX6_mid_52 (fun q23 => ?_) (fun q23 => ?_)
          · have h := ite_T h q23
            refine sw_sub [1, 2, 3, 4, 5] rfl ?_
            exact J21 _ _ _ h
          · have h := ite_F h q23
            refine sw_lload_n X 3 rfl rfl dX6_mid_55 ?_
            refine sw_lload X 0 rfl dX6_mid_56 ?_
            refine sw_aload_n X 1 rfl rfl dX6_mid_58 ?_
            refine sw_iload X 5 rfl dX6_mid_59 ?_
            obtain ⟨r25, s26, c24, h⟩ := bd_E h
            refine sw_callVI X (o := 63) (As := (fun g => [.int x7])) sw_cl6 (show sw_kd 63 = 6 from rfl) ws_X6_woundBy (by omega) (c_X6_woundBy F x7 s8 c24) rfl rfl (Nat.le_of_ble_eq_true rfl) wm_X6_207 dX6_mid_61 ?_
            refine sw_i2l X dX6_mid_64 ?_
            refine sw_lmul X dX6_mid_65 ?_
            refine sw_ladd X dX6_mid_66 ?_
            refine sw_topl (fun x27 ex27 => ?_)
            have h := nm_E h ex27
            refine sw_lstore_n X [(2, .long x27), (7, .long r16), (0, .ref (g.1 63)), (1, .int a1), (4, .long x6), (6, .int x7)] rfl (by decide) rfl dX6_mid_67 ?_
            refine sw_lload X 4 rfl dX6_mid_68 ?_
            refine sw_lload X 1 rfl dX6_mid_70 ?_
            refine sw_ladd X dX6_mid_72 ?_
            refine sw_topl (fun x28 ex28 => ?_)
            have h := nm_E h ex28
            refine sw_lstore X [(4, .long x28), (2, .long x27), (7, .long r16), (0, .ref (g.1 63)), (1, .int a1), (6, .int x7)] (by decide) rfl dX6_mid_73 ?_
            refine sw_sub [3, 4, 1, 0, 5] rfl ?_
            exact J21 _ _ _ h
    · have h := ite_T h q4
      refine sw_bipush X (v := (-4)) (by decide) dX6_mid_21 ?_
      exact sw_iret X hr hlk dX6_mid_23 h
  · have h := ite_T h q3
    refine sw_iconst X (v := (-1)) (by decide) dX6_mid_12 ?_
    exact sw_iret X hr hlk dX6_mid_13 h
