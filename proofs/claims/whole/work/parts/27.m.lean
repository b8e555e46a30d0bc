theorem dX6_greater_0 : decode cX6_greater 0 = .ok (.iconst 0, 1) := by decide +kernel
theorem dX6_greater_1 : decode cX6_greater 1 = .ok (.istore_n 2, 1) := by decide +kernel
theorem dX6_greater_2 : decode cX6_greater 2 = .ok (.iconst 0, 1) := by decide +kernel
theorem dX6_greater_3 : decode cX6_greater 3 = .ok (.istore_n 3, 1) := by decide +kernel
theorem dX6_greater_4 : decode cX6_greater 4 = .ok (.iconst 0, 1) := by decide +kernel
theorem dX6_greater_5 : decode cX6_greater 5 = .ok (.istore 4, 2) := by decide +kernel
theorem dX6_greater_7 : decode cX6_greater 7 = .ok (.iload 4, 2) := by decide +kernel
theorem dX6_greater_9 : decode cX6_greater 9 = .ok (.bipush 64, 2) := by decide +kernel
theorem dX6_greater_11 : decode cX6_greater 11 = .ok (.if_icmp .ge 63, 3) := by decide +kernel
theorem dX6_greater_14 : decode cX6_greater 14 = .ok (.iload_n 2, 1) := by decide +kernel
theorem dX6_greater_15 : decode cX6_greater 15 = .ok (.aload_n 0, 1) := by decide +kernel
theorem dX6_greater_16 : decode cX6_greater 16 = .ok (.getfield 47, 3) := by decide +kernel
theorem dX6_greater_19 : decode cX6_greater 19 = .ok (.iload 4, 2) := by decide +kernel
theorem dX6_greater_21 : decode cX6_greater 21 = .ok (.baload, 1) := by decide +kernel
theorem dX6_greater_22 : decode cX6_greater 22 = .ok (.ifCond .eq 16, 3) := by decide +kernel
theorem dX6_greater_25 : decode cX6_greater 25 = .ok (.iload 4, 2) := by decide +kernel
theorem dX6_greater_27 : decode cX6_greater 27 = .ok (.iload_n 1, 1) := by decide +kernel
theorem dX6_greater_28 : decode cX6_greater 28 = .ok (.invokestatic 139, 3) := by decide +kernel
theorem dX6_greater_31 : decode cX6_greater 31 = .ok (.ifCond .eq 7, 3) := by decide +kernel
theorem dX6_greater_34 : decode cX6_greater 34 = .ok (.iconst 1, 1) := by decide +kernel
theorem dX6_greater_35 : decode cX6_greater 35 = .ok (.goto 4, 3) := by decide +kernel
theorem dX6_greater_38 : decode cX6_greater 38 = .ok (.iconst 0, 1) := by decide +kernel
theorem dX6_greater_39 : decode cX6_greater 39 = .ok (.iadd, 1) := by decide +kernel
theorem dX6_greater_40 : decode cX6_greater 40 = .ok (.istore_n 2, 1) := by decide +kernel
theorem dX6_greater_41 : decode cX6_greater 41 = .ok (.iload_n 3, 1) := by decide +kernel
theorem dX6_greater_42 : decode cX6_greater 42 = .ok (.aload_n 0, 1) := by decide +kernel
theorem dX6_greater_43 : decode cX6_greater 43 = .ok (.getfield 47, 3) := by decide +kernel
theorem dX6_greater_46 : decode cX6_greater 46 = .ok (.iload 4, 2) := by decide +kernel
theorem dX6_greater_48 : decode cX6_greater 48 = .ok (.baload, 1) := by decide +kernel
theorem dX6_greater_49 : decode cX6_greater 49 = .ok (.ifCond .eq 16, 3) := by decide +kernel
theorem dX6_greater_52 : decode cX6_greater 52 = .ok (.iload 4, 2) := by decide +kernel
theorem dX6_greater_54 : decode cX6_greater 54 = .ok (.iload_n 1, 1) := by decide +kernel
theorem dX6_greater_55 : decode cX6_greater 55 = .ok (.invokestatic 139, 3) := by decide +kernel
theorem dX6_greater_58 : decode cX6_greater 58 = .ok (.ifCond .ne 7, 3) := by decide +kernel
theorem dX6_greater_61 : decode cX6_greater 61 = .ok (.iconst 1, 1) := by decide +kernel
theorem dX6_greater_62 : decode cX6_greater 62 = .ok (.goto 4, 3) := by decide +kernel
theorem dX6_greater_65 : decode cX6_greater 65 = .ok (.iconst 0, 1) := by decide +kernel
theorem dX6_greater_66 : decode cX6_greater 66 = .ok (.iadd, 1) := by decide +kernel
theorem dX6_greater_67 : decode cX6_greater 67 = .ok (.istore_n 3, 1) := by decide +kernel
theorem dX6_greater_68 : decode cX6_greater 68 = .ok (.iinc 4 1, 3) := by decide +kernel
theorem dX6_greater_71 : decode cX6_greater 71 = .ok (.goto (-64), 3) := by decide +kernel
theorem dX6_greater_74 : decode cX6_greater 74 = .ok (.iload_n 2, 1) := by decide +kernel
theorem dX6_greater_75 : decode cX6_greater 75 = .ok (.iload_n 3, 1) := by decide +kernel
theorem dX6_greater_76 : decode cX6_greater 76 = .ok (.if_icmp .le 7, 3) := by decide +kernel
theorem dX6_greater_79 : decode cX6_greater 79 = .ok (.iload_n 2, 1) := by decide +kernel
theorem dX6_greater_80 : decode cX6_greater 80 = .ok (.goto 4, 3) := by decide +kernel
theorem dX6_greater_83 : decode cX6_greater 83 = .ok (.iload_n 3, 1) := by decide +kernel
theorem dX6_greater_84 : decode cX6_greater 84 = .ok (.ireturn, 1) := by decide +kernel
def j_X6_greater (F : Nat) (a1 : Int32) (st : sw_St) : Option Int32 :=
lz3 (fun f4 (x1 : Int32) (x2 : Int32) (x3 : Int32) =>
 (if 64 ≤ x3 then (
  jn (fun (x7 : Int32) => 
    some (x7 : Int32)) (fun k8 =>
   (if x1 ≤ x2 then (
    k8 x2)
   else (
    k8 x1))))
 else (
  bnd x3 64 (
  jn (fun (x12 : Int32) => 
    nm (x1 + x12) (fun (x15 : Int32) =>
    bnd x3 64 (
    jn (fun (x17 : Int32) => 
      nm (x2 + x17) (fun (x20 : Int32) =>
      nm (x3 + 1) (fun (x21 : Int32) =>
      f4 x15 x20 x21))) (fun k18 =>
     jn (
       k18 0) (fun k22 =>
      (if (st.1 75 (x3 : Int32).toNatClampNeg) = 0 then (
       k22)
      else (
       bo (j_X6_has F x3 a1 st) (fun (r26 : Int32) =>
       (if r26 = 0 then (
        k18 1)
       else (
        k22)))))))))) (fun k13 =>
   jn (
     k13 0) (fun k28 =>
    (if (st.1 75 (x3 : Int32).toNatClampNeg) = 0 then (
     k28)
    else (
     bo (j_X6_has F x3 a1 st) (fun (r32 : Int32) =>
     (if r32 = 0 then (
      k28)
     else (
      k13 1))))))))))) F 0 0 0
set_option maxHeartbeats 4000000 in
set_option maxRecDepth 100000 in
theorem c_X6_greater (F : Nat) (a1 : Int32) (st : sw_St) {r : Int32} (h : j_X6_greater F a1 st = some r) : sw_CI yX6_greater (.code yX6_greater cX6_greater 5 (some .int)) 2 (fun g => [.ref (g.1 63), .int a1]) st r st := by
  refine sw_entI RX6 (fun g => [(0, .ref (g.1 63)), (1, .int a1)]) (by decide) rfl (fun _ => Nat.le_of_ble_eq_true rfl) (fun _ => rfl) ?_
  intro p l e s m args below meth c g X hr hlk
  unfold j_X6_greater at h
  refine sw_iconst X (v := 0) (by decide) dX6_greater_0 ?_
  refine sw_istore_n X [(2, .int 0), (0, .ref (g.1 63)), (1, .int a1)] rfl (by decide) rfl dX6_greater_1 ?_
  refine sw_iconst X (v := 0) (by decide) dX6_greater_2 ?_
  refine sw_istore_n X [(3, .int 0), (2, .int 0), (0, .ref (g.1 63)), (1, .int a1)] rfl (by decide) rfl dX6_greater_3 ?_
  refine sw_iconst X (v := 0) (by decide) dX6_greater_4 ?_
  refine sw_istore X [(4, .int 0), (3, .int 0), (2, .int 0), (0, .ref (g.1 63)), (1, .int a1)] (by decide) rfl dX6_greater_5 ?_
  refine sw_sub [3, 4, 2, 1, 0] rfl ?_
  refine lz3_E (fun (x1 : Int32) (x2 : Int32) (x3 : Int32) => sw_V p l e 2 s m args below meth c g (sw_A g s.heap.size) (sw_QI below g args s r st) 5 7 [(0, .ref (g.1 63)), (1, .int a1), (2, .int x1), (3, .int x2), (4, .int x3)] [] st) h (fun f4 ih5 x1 x2 x3 h => ?_)
  refine sw_iload X 4 rfl dX6_greater_7 ?_
  refine sw_bipush X (v := 64) (by decide) dX6_greater_9 ?_
  refine sw_icmp_ge X 74 (by decide) dX6_greater_11 (fun q6 => ?_) (fun q6 => ?_)
  · have h := ite_T h q6
    refine sw_iload_n X 2 rfl rfl dX6_greater_74 ?_
    refine sw_iload_n X 3 rfl rfl dX6_greater_75 ?_
    refine jn1_E (fun (x7 : Int32) => sw_V p l e 2 s m args below meth c g (sw_A g s.heap.size) (sw_QI below g args s r st) 5 84 [] [.int x7] st) h (fun x7 h => ?_) (fun k8 J9 h => ?_)
    · exact sw_iret X hr hlk dX6_greater_84 (by cases h; rfl)
    · refine sw_icmp_le X 83 (by decide) dX6_greater_76 (fun q10 => ?_) (fun q10 => ?_)
      · have h := ite_T h q10
        refine sw_iload_n X 3 rfl rfl dX6_greater_83 ?_
        refine sw_sub [] rfl ?_
        exact J9 _ h
      · have h := ite_F h q10
        refine sw_iload_n X 2 rfl rfl dX6_greater_79 ?_
        refine sw_goto X 84 (by decide) dX6_greater_80 ?_
        refine sw_sub [] rfl ?_
        exact J9 _ h
  · have h := ite_F h q6
    refine sw_iload_n X 2 rfl rfl dX6_greater_14 ?_
    refine sw_aload_n X 0 rfl rfl dX6_greater_15 ?_
    refine sw_getR X sw_cl6 (show sw_kd 63 = 6 from rfl) (k := 27) rfl (by decide) (o1 := 75) rfl wf_X6_47 dX6_greater_16 ?_
    refine sw_iload X 4 rfl dX6_greater_19 ?_
    obtain ⟨q11, h⟩ := bnd_E h
    refine sw_zald X (show sw_kd 75 = 9 from rfl) (n := 64) rfl q11 dX6_greater_21 ?_
    refine jn1_E (fun (x12 : Int32) => sw_V p l e 2 s m args below meth c g (sw_A g s.heap.size) (sw_QI below g args s r st) 5 39 [(0, .ref (g.1 63)), (1, .int a1), (3, .int x2), (4, .int x3)] [.int x12, .int x1] st) h (fun x12 h => ?_) (fun k13 J14 h => ?_)
    · refine sw_iadd X dX6_greater_39 ?_
      refine sw_topi (fun x15 ex15 => ?_)
      have h := nm_E h ex15
      refine sw_istore_n X [(2, .int x15), (0, .ref (g.1 63)), (1, .int a1), (3, .int x2), (4, .int x3)] rfl (by decide) rfl dX6_greater_40 ?_
      refine sw_iload_n X 3 rfl rfl dX6_greater_41 ?_
      refine sw_aload_n X 1 rfl rfl dX6_greater_42 ?_
      refine sw_getR X sw_cl6 (show sw_kd 63 = 6 from rfl) (k := 27) rfl (by decide) (o1 := 75) rfl wf_X6_47 dX6_greater_43 ?_
      refine sw_iload X 4 rfl dX6_greater_46 ?_
      obtain ⟨q16, h⟩ := bnd_E h
      refine sw_zald X (show sw_kd 75 = 9 from rfl) (n := 64) rfl q16 dX6_greater_48 ?_
      refine jn1_E (fun (x17 : Int32) => sw_V p l e 2 s m args below meth c g (sw_A g s.heap.size) (sw_QI below g args s r st) 5 66 [(0, .ref (g.1 63)), (1, .int a1), (2, .int x15), (4, .int x3)] [.int x17, .int x2] st) h (fun x17 h => ?_) (fun k18 J19 h => ?_)
      · refine sw_iadd X dX6_greater_66 ?_
        refine sw_topi (fun x20 ex20 => ?_)
        have h := nm_E h ex20
        refine sw_istore_n X [(3, .int x20), (0, .ref (g.1 63)), (1, .int a1), (2, .int x15), (4, .int x3)] rfl (by decide) rfl dX6_greater_67 ?_
        obtain ⟨x21, ex21⟩ : ∃ y : Int32, y = x3 + 1 := ⟨_, rfl⟩
        have h := nm_E h ex21
        refine sw_iinc X 4 x21 [(4, .int x21), (3, .int x20), (0, .ref (g.1 63)), (1, .int a1), (2, .int x15)] rfl (by rw [ex21]; rfl) (by decide) rfl dX6_greater_68 ?_
        refine sw_goto X 7 (by decide) dX6_greater_71 ?_
        refine sw_sub [2, 3, 4, 1, 0] rfl ?_
        exact ih5 _ _ _ h
      · refine jn0_E (sw_V p l e 2 s m args below meth c g (sw_A g s.heap.size) (sw_QI below g args s r st) 5 65 [(0, .ref (g.1 63)), (1, .int a1), (2, .int x15), (4, .int x3)] [.int x2] st) h (fun h => ?_) (fun k22 J23 h => ?_)
        · refine sw_iconst X (v := 0) (by decide) dX6_greater_65 ?_
          exact J19 _ h
        · refine sw_if_eq X 65 (by decide) dX6_greater_49 (fun q24 => ?_) (fun q24 => ?_)
          · have h := ite_T h q24
            refine sw_sub [1, 2, 0, 4] rfl ?_
            exact J23  h
          · have h := ite_F h q24
            refine sw_iload X 4 rfl dX6_greater_52 ?_
            refine sw_iload_n X 2 rfl rfl dX6_greater_54 ?_
            obtain ⟨r26, c25, h⟩ := bo_E h
            refine sw_callSI X (As := (fun g => [.int x3, .int a1])) ws_X6_has (by omega) (c_X6_has F x3 a1 st c25) rfl rfl (Nat.le_of_ble_eq_true rfl) wm_X6_139 dX6_greater_55 ?_
            refine sw_if_ne X 65 (by decide) dX6_greater_58 (fun q27 => ?_) (fun q27 => ?_)
            · have h := ite_F h q27
              refine sw_sub [1, 2, 0, 4] rfl ?_
              exact J23  h
            · have h := ite_T h q27
              refine sw_iconst X (v := 1) (by decide) dX6_greater_61 ?_
              refine sw_goto X 66 (by decide) dX6_greater_62 ?_
              refine sw_sub [1, 2, 0, 4] rfl ?_
              exact J19 _ h
    · refine jn0_E (sw_V p l e 2 s m args below meth c g (sw_A g s.heap.size) (sw_QI below g args s r st) 5 38 [(0, .ref (g.1 63)), (1, .int a1), (3, .int x2), (4, .int x3)] [.int x1] st) h (fun h => ?_) (fun k28 J29 h => ?_)
      · refine sw_iconst X (v := 0) (by decide) dX6_greater_38 ?_
        exact J14 _ h
      · refine sw_if_eq X 38 (by decide) dX6_greater_22 (fun q30 => ?_) (fun q30 => ?_)
        · have h := ite_T h q30
          refine sw_sub [0, 1, 3, 4] rfl ?_
          exact J29  h
        · have h := ite_F h q30
          refine sw_iload X 4 rfl dX6_greater_25 ?_
          refine sw_iload_n X 1 rfl rfl dX6_greater_27 ?_
          obtain ⟨r32, c31, h⟩ := bo_E h
          refine sw_callSI X (As := (fun g => [.int x3, .int a1])) ws_X6_has (by omega) (c_X6_has F x3 a1 st c31) rfl rfl (Nat.le_of_ble_eq_true rfl) wm_X6_139 dX6_greater_28 ?_
          refine sw_if_eq X 38 (by decide) dX6_greater_31 (fun q33 => ?_) (fun q33 => ?_)
          · have h := ite_T h q33
            refine sw_sub [0, 1, 3, 4] rfl ?_
            exact J29  h
          · have h := ite_F h q33
            refine sw_iconst X (v := 1) (by decide) dX6_greater_34 ?_
            refine sw_goto X 39 (by decide) dX6_greater_35 ?_
            refine sw_sub [0, 1, 3, 4] rfl ?_
            exact J14 _ h
theorem dX6_ask_0 : decode cX6_ask 0 = .ok (.aload_n 0, 1) := by decide +kernel
theorem dX6_ask_1 : decode cX6_ask 1 = .ok (.iload_n 1, 1) := by decide +kernel
theorem dX6_ask_2 : decode cX6_ask 2 = .ok (.invokevirtual 248, 3) := by decide +kernel
theorem dX6_ask_5 : decode cX6_ask 5 = .ok (.istore_n 2, 1) := by decide +kernel
theorem dX6_ask_6 : decode cX6_ask 6 = .ok (.iload_n 2, 1) := by decide +kernel
theorem dX6_ask_7 : decode cX6_ask 7 = .ok (.ifCond .eq 5, 3) := by decide +kernel
theorem dX6_ask_10 : decode cX6_ask 10 = .ok (.iload_n 2, 1) := by decide +kernel
theorem dX6_ask_11 : decode cX6_ask 11 = .ok (.ireturn, 1) := by decide +kernel
theorem dX6_ask_12 : decode cX6_ask 12 = .ok (.bipush (-9), 2) := by decide +kernel
theorem dX6_ask_14 : decode cX6_ask 14 = .ok (.istore_n 3, 1) := by decide +kernel
theorem dX6_ask_15 : decode cX6_ask 15 = .ok (.bipush 99, 2) := by decide +kernel
theorem dX6_ask_17 : decode cX6_ask 17 = .ok (.istore 4, 2) := by decide +kernel
theorem dX6_ask_19 : decode cX6_ask 19 = .ok (.iconst 0, 1) := by decide +kernel
theorem dX6_ask_20 : decode cX6_ask 20 = .ok (.istore 5, 2) := by decide +kernel
theorem dX6_ask_22 : decode cX6_ask 22 = .ok (.iload 5, 2) := by decide +kernel
theorem dX6_ask_24 : decode cX6_ask 24 = .ok (.aload_n 0, 1) := by decide +kernel
theorem dX6_ask_25 : decode cX6_ask 25 = .ok (.getfield 136, 3) := by decide +kernel
theorem dX6_ask_28 : decode cX6_ask 28 = .ok (.if_icmp .ge 64, 3) := by decide +kernel
theorem dX6_ask_31 : decode cX6_ask 31 = .ok (.aload_n 0, 1) := by decide +kernel
theorem dX6_ask_32 : decode cX6_ask 32 = .ok (.invokevirtual 201, 3) := by decide +kernel
theorem dX6_ask_35 : decode cX6_ask 35 = .ok (.iload 5, 2) := by decide +kernel
theorem dX6_ask_37 : decode cX6_ask 37 = .ok (.invokestatic 139, 3) := by decide +kernel
theorem dX6_ask_40 : decode cX6_ask 40 = .ok (.ifCond .eq 12, 3) := by decide +kernel
theorem dX6_ask_43 : decode cX6_ask 43 = .ok (.aload_n 0, 1) := by decide +kernel
theorem dX6_ask_44 : decode cX6_ask 44 = .ok (.iload 5, 2) := by decide +kernel
theorem dX6_ask_46 : decode cX6_ask 46 = .ok (.invokevirtual 251, 3) := by decide +kernel
theorem dX6_ask_49 : decode cX6_ask 49 = .ok (.goto 5, 3) := by decide +kernel
theorem dX6_ask_52 : decode cX6_ask 52 = .ok (.bipush 99, 2) := by decide +kernel
theorem dX6_ask_54 : decode cX6_ask 54 = .ok (.istore 6, 2) := by decide +kernel
theorem dX6_ask_56 : decode cX6_ask 56 = .ok (.iload 6, 2) := by decide +kernel
theorem dX6_ask_58 : decode cX6_ask 58 = .ok (.iload 4, 2) := by decide +kernel
theorem dX6_ask_60 : decode cX6_ask 60 = .ok (.if_icmp .ge 8, 3) := by decide +kernel
theorem dX6_ask_63 : decode cX6_ask 63 = .ok (.iload 5, 2) := by decide +kernel
theorem dX6_ask_65 : decode cX6_ask 65 = .ok (.goto 4, 3) := by decide +kernel
theorem dX6_ask_68 : decode cX6_ask 68 = .ok (.iload_n 3, 1) := by decide +kernel
theorem dX6_ask_69 : decode cX6_ask 69 = .ok (.istore_n 3, 1) := by decide +kernel
theorem dX6_ask_70 : decode cX6_ask 70 = .ok (.iload 6, 2) := by decide +kernel
theorem dX6_ask_72 : decode cX6_ask 72 = .ok (.iload 4, 2) := by decide +kernel
theorem dX6_ask_74 : decode cX6_ask 74 = .ok (.if_icmp .ge 8, 3) := by decide +kernel
theorem dX6_ask_77 : decode cX6_ask 77 = .ok (.iload 6, 2) := by decide +kernel
theorem dX6_ask_79 : decode cX6_ask 79 = .ok (.goto 5, 3) := by decide +kernel
theorem dX6_ask_82 : decode cX6_ask 82 = .ok (.iload 4, 2) := by decide +kernel
theorem dX6_ask_84 : decode cX6_ask 84 = .ok (.istore 4, 2) := by decide +kernel
theorem dX6_ask_86 : decode cX6_ask 86 = .ok (.iinc 5 1, 3) := by decide +kernel
theorem dX6_ask_89 : decode cX6_ask 89 = .ok (.goto (-67), 3) := by decide +kernel
theorem dX6_ask_92 : decode cX6_ask 92 = .ok (.aload_n 0, 1) := by decide +kernel
theorem dX6_ask_93 : decode cX6_ask 93 = .ok (.iload_n 3, 1) := by decide +kernel
theorem dX6_ask_94 : decode cX6_ask 94 = .ok (.bipush (-9), 2) := by decide +kernel
theorem dX6_ask_96 : decode cX6_ask 96 = .ok (.if_icmp .ne 10, 3) := by decide +kernel
theorem dX6_ask_99 : decode cX6_ask 99 = .ok (.aload_n 0, 1) := by decide +kernel
theorem dX6_ask_100 : decode cX6_ask 100 = .ok (.getfield 58, 3) := by decide +kernel
theorem dX6_ask_103 : decode cX6_ask 103 = .ok (.goto 5, 3) := by decide +kernel
theorem dX6_ask_106 : decode cX6_ask 106 = .ok (.iload 4, 2) := by decide +kernel
theorem dX6_ask_108 : decode cX6_ask 108 = .ok (.putfield 58, 3) := by decide +kernel
theorem dX6_ask_111 : decode cX6_ask 111 = .ok (.iload_n 3, 1) := by decide +kernel
theorem dX6_ask_112 : decode cX6_ask 112 = .ok (.ireturn, 1) := by decide +kernel
def j_X6_ask (F : Nat) (a1 : Int32) (st : sw_St) : Option (Int32 × sw_St) :=
bd (j_X6_noFits F a1 st) (fun (r2 : Int32) (s3 : sw_St) =>
(if r2 = 0 then (
 lz3 (fun f8 (x5 : Int32) (x6 : Int32) (x7 : Int32) =>
  (if (s3.1 63 1) ≤ x7 then (
   jn (fun (x11 : Int32) => 
     nm (sw_setC s3 63 9 x11) (fun (s14 : sw_St) =>
     some ((x5 : Int32), s14))) (fun k12 =>
    (if x5 = (-9) then (
     k12 (s3.1 63 9))
    else (
     k12 x6))))
  else (
   bo (j_X6_out F s3) (fun (r17 : Int32) =>
   bo (j_X6_has F r17 x7 s3) (fun (r19 : Int32) =>
   jn (fun (x20 : Int32) => 
     jn (fun (x23 : Int32) => 
       jn (fun (x26 : Int32) => 
         nm (x7 + 1) (fun (x29 : Int32) =>
         f8 x23 x26 x29)) (fun k27 =>
        (if x6 ≤ x20 then (
         k27 x6)
        else (
         k27 x20)))) (fun k24 =>
      (if x6 ≤ x20 then (
       k24 x5)
      else (
       k24 x7)))) (fun k21 =>
    (if r19 = 0 then (
     k21 99)
    else (
     bo (j_X6_greater F x7 s3) (fun (r34 : Int32) =>
     k21 r34))))))))) F (-9) 99 0)
else (
 some ((r2 : Int32), s3))))
set_option maxHeartbeats 4000000 in
set_option maxRecDepth 100000 in
theorem c_X6_ask (F : Nat) (a1 : Int32) (st : sw_St) {r : Int32} {st1 : sw_St} (h : j_X6_ask F a1 st = some (r, st1)) : sw_CI yX6_ask (.code yX6_ask cX6_ask 7 (some .int)) 8 (fun g => [.ref (g.1 63), .int a1]) st r st1 := by
  refine sw_entI RX6 (fun g => [(0, .ref (g.1 63)), (1, .int a1)]) (by decide) rfl (fun _ => Nat.le_of_ble_eq_true rfl) (fun _ => rfl) ?_
  intro p l e s m args below meth c g X hr hlk
  unfold j_X6_ask at h
  refine sw_aload_n X 0 rfl rfl dX6_ask_0 ?_
  refine sw_iload_n X 1 rfl rfl dX6_ask_1 ?_
  obtain ⟨r2, s3, c1, h⟩ := bd_E h
  refine sw_callVI X (o := 63) (As := (fun g => [.int a1])) sw_cl6 (show sw_kd 63 = 6 from rfl) ws_X6_noFits (by omega) (c_X6_noFits F a1 st c1) rfl rfl (Nat.le_of_ble_eq_true rfl) wm_X6_248 dX6_ask_2 ?_
  refine sw_istore_n X [(2, .int r2), (0, .ref (g.1 63)), (1, .int a1)] rfl (by decide) rfl dX6_ask_5 ?_
  refine sw_iload_n X 0 rfl rfl dX6_ask_6 ?_
  refine sw_if_eq X 12 (by decide) dX6_ask_7 (fun q4 => ?_) (fun q4 => ?_)
  · have h := ite_T h q4
    refine sw_bipush X (v := (-9)) (by decide) dX6_ask_12 ?_
    refine sw_istore_n X [(3, .int (-9)), (2, .int r2), (0, .ref (g.1 63)), (1, .int a1)] rfl (by decide) rfl dX6_ask_14 ?_
    refine sw_bipush X (v := 99) (by decide) dX6_ask_15 ?_
    refine sw_istore X [(4, .int 99), (3, .int (-9)), (2, .int r2), (0, .ref (g.1 63)), (1, .int a1)] (by decide) rfl dX6_ask_17 ?_
    refine sw_iconst X (v := 0) (by decide) dX6_ask_19 ?_
    refine sw_istore X [(5, .int 0), (4, .int 99), (3, .int (-9)), (2, .int r2), (0, .ref (g.1 63)), (1, .int a1)] (by decide) rfl dX6_ask_20 ?_
    refine sw_sub [4, 2, 1, 0] rfl ?_
    refine lz3_E (fun (x5 : Int32) (x6 : Int32) (x7 : Int32) => sw_V p l e 8 s m args below meth c g (sw_A g s.heap.size) (sw_QI below g args s r st1) 7 22 [(0, .ref (g.1 63)), (3, .int x5), (4, .int x6), (5, .int x7)] [] s3) h (fun f8 ih9 x5 x6 x7 h => ?_)
    refine sw_iload X 3 rfl dX6_ask_22 ?_
    refine sw_aload_n X 0 rfl rfl dX6_ask_24 ?_
    refine sw_getI X sw_cl6 (show sw_kd 63 = 6 from rfl) (k := 1) rfl (by decide) wf_X6_136 dX6_ask_25 ?_
    refine sw_icmp_ge X 92 (by decide) dX6_ask_28 (fun q10 => ?_) (fun q10 => ?_)
    · have h := ite_T h q10
      refine sw_aload_n X 0 rfl rfl dX6_ask_92 ?_
      refine sw_iload_n X 1 rfl rfl dX6_ask_93 ?_
      refine sw_bipush X (v := (-9)) (by decide) dX6_ask_94 ?_
      refine jn1_E (fun (x11 : Int32) => sw_V p l e 8 s m args below meth c g (sw_A g s.heap.size) (sw_QI below g args s r st1) 7 108 [(3, .int x5)] [.int x11, .ref (g.1 63)] s3) h (fun x11 h => ?_) (fun k12 J13 h => ?_)
      · refine sw_putI X sw_cl6 (show sw_kd 63 = 6 from rfl) (k := 9) rfl (by decide) rfl rfl wf_X6_58 dX6_ask_108 (fun s14 es14 => ?_)
        have h := nm_E h es14
        refine sw_iload_n X 0 rfl rfl dX6_ask_111 ?_
        exact sw_iret X hr hlk dX6_ask_112 h
      · refine sw_icmp_ne X 106 (by decide) dX6_ask_96 (fun q15 => ?_) (fun q15 => ?_)
        · have h := ite_F h q15
          refine sw_iload X 2 rfl dX6_ask_106 ?_
          refine sw_sub [1] rfl ?_
          exact J13 _ h
        · have h := ite_T h q15
          refine sw_aload_n X 0 rfl rfl dX6_ask_99 ?_
          refine sw_getI X sw_cl6 (show sw_kd 63 = 6 from rfl) (k := 9) rfl (by decide) wf_X6_58 dX6_ask_100 ?_
          refine sw_goto X 108 (by decide) dX6_ask_103 ?_
          refine sw_sub [1] rfl ?_
          exact J13 _ h
    · have h := ite_F h q10
      refine sw_aload_n X 0 rfl rfl dX6_ask_31 ?_
      obtain ⟨r17, c16, h⟩ := bo_E h
      refine sw_callVI X (o := 63) (As := (fun g => [])) sw_cl6 (show sw_kd 63 = 6 from rfl) ws_X6_out (by omega) (c_X6_out F s3 c16) rfl rfl (Nat.le_of_ble_eq_true rfl) wm_X6_201 dX6_ask_32 ?_
      refine sw_iload X 3 rfl dX6_ask_35 ?_
      obtain ⟨r19, c18, h⟩ := bo_E h
      refine sw_callSI X (As := (fun g => [.int r17, .int x7])) ws_X6_has (by omega) (c_X6_has F r17 x7 s3 c18) rfl rfl (Nat.le_of_ble_eq_true rfl) wm_X6_139 dX6_ask_37 ?_
      refine jn1_E (fun (x20 : Int32) => sw_V p l e 8 s m args below meth c g (sw_A g s.heap.size) (sw_QI below g args s r st1) 7 54 [(0, .ref (g.1 63)), (3, .int x5), (4, .int x6), (5, .int x7)] [.int x20] s3) h (fun x20 h => ?_) (fun k21 J22 h => ?_)
      · refine sw_istore X [(6, .int x20), (0, .ref (g.1 63)), (3, .int x5), (4, .int x6), (5, .int x7)] (by decide) rfl dX6_ask_54 ?_
        refine sw_iload X 0 rfl dX6_ask_56 ?_
        refine sw_iload X 3 rfl dX6_ask_58 ?_
        refine jn1_E (fun (x23 : Int32) => sw_V p l e 8 s m args below meth c g (sw_A g s.heap.size) (sw_QI below g args s r st1) 7 69 [(0, .ref (g.1 63)), (4, .int x6), (5, .int x7), (6, .int x20)] [.int x23] s3) h (fun x23 h => ?_) (fun k24 J25 h => ?_)
        · refine sw_istore_n X [(3, .int x23), (0, .ref (g.1 63)), (4, .int x6), (5, .int x7), (6, .int x20)] rfl (by decide) rfl dX6_ask_69 ?_
          refine sw_iload X 4 rfl dX6_ask_70 ?_
          refine sw_iload X 2 rfl dX6_ask_72 ?_
          refine jn1_E (fun (x26 : Int32) => sw_V p l e 8 s m args below meth c g (sw_A g s.heap.size) (sw_QI below g args s r st1) 7 84 [(0, .ref (g.1 63)), (3, .int x23), (5, .int x7)] [.int x26] s3) h (fun x26 h => ?_) (fun k27 J28 h => ?_)
          · refine sw_istore X [(4, .int x26), (0, .ref (g.1 63)), (3, .int x23), (5, .int x7)] (by decide) rfl dX6_ask_84 ?_
            obtain ⟨x29, ex29⟩ : ∃ y : Int32, y = x7 + 1 := ⟨_, rfl⟩
            have h := nm_E h ex29
            refine sw_iinc X 3 x29 [(5, .int x29), (4, .int x26), (0, .ref (g.1 63)), (3, .int x23)] rfl (by rw [ex29]; rfl) (by decide) rfl dX6_ask_86 ?_
            refine sw_goto X 22 (by decide) dX6_ask_89 ?_
            refine sw_sub [2, 3, 1, 0] rfl ?_
            exact ih9 _ _ _ h
          · refine sw_icmp_ge X 82 (by decide) dX6_ask_74 (fun q30 => ?_) (fun q30 => ?_)
            · have h := ite_T h q30
              refine sw_iload X 2 rfl dX6_ask_82 ?_
              refine sw_sub [1, 0, 3] rfl ?_
              exact J28 _ h
            · have h := ite_F h q30
              refine sw_iload X 4 rfl dX6_ask_77 ?_
              refine sw_goto X 84 (by decide) dX6_ask_79 ?_
              refine sw_sub [1, 0, 3] rfl ?_
              exact J28 _ h
        · refine sw_icmp_ge X 68 (by decide) dX6_ask_60 (fun q31 => ?_) (fun q31 => ?_)
          · have h := ite_T h q31
            refine sw_iload_n X 2 rfl rfl dX6_ask_68 ?_
            refine sw_sub [1, 3, 4, 0] rfl ?_
            exact J25 _ h
          · have h := ite_F h q31
            refine sw_iload X 4 rfl dX6_ask_63 ?_
            refine sw_goto X 69 (by decide) dX6_ask_65 ?_
            refine sw_sub [1, 3, 4, 0] rfl ?_
            exact J25 _ h
      · refine sw_if_eq X 52 (by decide) dX6_ask_40 (fun q32 => ?_) (fun q32 => ?_)
        · have h := ite_T h q32
          refine sw_bipush X (v := 99) (by decide) dX6_ask_52 ?_
          exact J22 _ h
        · have h := ite_F h q32
          refine sw_aload_n X 0 rfl rfl dX6_ask_43 ?_
          refine sw_iload X 3 rfl dX6_ask_44 ?_
          obtain ⟨r34, c33, h⟩ := bo_E h
          refine sw_callVI X (o := 63) (As := (fun g => [.int x7])) sw_cl6 (show sw_kd 63 = 6 from rfl) ws_X6_greater (by omega) (c_X6_greater F x7 s3 c33) rfl rfl (Nat.le_of_ble_eq_true rfl) wm_X6_251 dX6_ask_46 ?_
          refine sw_goto X 54 (by decide) dX6_ask_49 ?_
          exact J22 _ h
  · have h := ite_F h q4
    refine sw_iload_n X 0 rfl rfl dX6_ask_10 ?_
    exact sw_iret X hr hlk dX6_ask_11 h
theorem dX6_came_0 : decode cX6_came 0 = .ok (.aload_n 0, 1) := by decide +kernel
theorem dX6_came_1 : decode cX6_came 1 = .ok (.iload_n 1, 1) := by decide +kernel
theorem dX6_came_2 : decode cX6_came 2 = .ok (.invokevirtual 248, 3) := by decide +kernel
theorem dX6_came_5 : decode cX6_came 5 = .ok (.istore_n 2, 1) := by decide +kernel
theorem dX6_came_6 : decode cX6_came 6 = .ok (.iload_n 2, 1) := by decide +kernel
theorem dX6_came_7 : decode cX6_came 7 = .ok (.ifCond .eq 5, 3) := by decide +kernel
theorem dX6_came_10 : decode cX6_came 10 = .ok (.iload_n 2, 1) := by decide +kernel
theorem dX6_came_11 : decode cX6_came 11 = .ok (.ireturn, 1) := by decide +kernel
theorem dX6_came_12 : decode cX6_came 12 = .ok (.bipush 99, 2) := by decide +kernel
theorem dX6_came_14 : decode cX6_came 14 = .ok (.istore_n 3, 1) := by decide +kernel
theorem dX6_came_15 : decode cX6_came 15 = .ok (.iconst 0, 1) := by decide +kernel
theorem dX6_came_16 : decode cX6_came 16 = .ok (.istore 4, 2) := by decide +kernel
theorem dX6_came_18 : decode cX6_came 18 = .ok (.iconst 0, 1) := by decide +kernel
theorem dX6_came_19 : decode cX6_came 19 = .ok (.istore 5, 2) := by decide +kernel
theorem dX6_came_21 : decode cX6_came 21 = .ok (.iload 5, 2) := by decide +kernel
theorem dX6_came_23 : decode cX6_came 23 = .ok (.bipush 64, 2) := by decide +kernel
theorem dX6_came_25 : decode cX6_came 25 = .ok (.if_icmp .ge 65, 3) := by decide +kernel
theorem dX6_came_28 : decode cX6_came 28 = .ok (.iload 5, 2) := by decide +kernel
theorem dX6_came_30 : decode cX6_came 30 = .ok (.invokestatic 146, 3) := by decide +kernel
theorem dX6_came_33 : decode cX6_came 33 = .ok (.istore 6, 2) := by decide +kernel
theorem dX6_came_35 : decode cX6_came 35 = .ok (.aload_n 0, 1) := by decide +kernel
theorem dX6_came_36 : decode cX6_came 36 = .ok (.getfield 47, 3) := by decide +kernel
theorem dX6_came_39 : decode cX6_came 39 = .ok (.iload 5, 2) := by decide +kernel
theorem dX6_came_41 : decode cX6_came 41 = .ok (.baload, 1) := by decide +kernel
theorem dX6_came_42 : decode cX6_came 42 = .ok (.ifCond .eq 14, 3) := by decide +kernel
theorem dX6_came_45 : decode cX6_came 45 = .ok (.iload 6, 2) := by decide +kernel
theorem dX6_came_47 : decode cX6_came 47 = .ok (.iload_n 3, 1) := by decide +kernel
theorem dX6_came_48 : decode cX6_came 48 = .ok (.if_icmp .ge 8, 3) := by decide +kernel
theorem dX6_came_51 : decode cX6_came 51 = .ok (.iload 6, 2) := by decide +kernel
theorem dX6_came_53 : decode cX6_came 53 = .ok (.goto 4, 3) := by decide +kernel
theorem dX6_came_56 : decode cX6_came 56 = .ok (.iload_n 3, 1) := by decide +kernel
theorem dX6_came_57 : decode cX6_came 57 = .ok (.istore_n 3, 1) := by decide +kernel
theorem dX6_came_58 : decode cX6_came 58 = .ok (.aload_n 0, 1) := by decide +kernel
theorem dX6_came_59 : decode cX6_came 59 = .ok (.getfield 47, 3) := by decide +kernel
theorem dX6_came_62 : decode cX6_came 62 = .ok (.iload 5, 2) := by decide +kernel
theorem dX6_came_64 : decode cX6_came 64 = .ok (.baload, 1) := by decide +kernel
theorem dX6_came_65 : decode cX6_came 65 = .ok (.ifCond .eq 15, 3) := by decide +kernel
theorem dX6_came_68 : decode cX6_came 68 = .ok (.iload 6, 2) := by decide +kernel
theorem dX6_came_70 : decode cX6_came 70 = .ok (.iload 4, 2) := by decide +kernel
theorem dX6_came_72 : decode cX6_came 72 = .ok (.if_icmp .le 8, 3) := by decide +kernel
theorem dX6_came_75 : decode cX6_came 75 = .ok (.iload 6, 2) := by decide +kernel
theorem dX6_came_77 : decode cX6_came 77 = .ok (.goto 5, 3) := by decide +kernel
theorem dX6_came_80 : decode cX6_came 80 = .ok (.iload 4, 2) := by decide +kernel
theorem dX6_came_82 : decode cX6_came 82 = .ok (.istore 4, 2) := by decide +kernel
theorem dX6_came_84 : decode cX6_came 84 = .ok (.iinc 5 1, 3) := by decide +kernel
theorem dX6_came_87 : decode cX6_came 87 = .ok (.goto (-66), 3) := by decide +kernel
theorem dX6_came_90 : decode cX6_came 90 = .ok (.aload_n 0, 1) := by decide +kernel
theorem dX6_came_91 : decode cX6_came 91 = .ok (.iload 4, 2) := by decide +kernel
theorem dX6_came_93 : decode cX6_came 93 = .ok (.putfield 58, 3) := by decide +kernel
theorem dX6_came_96 : decode cX6_came 96 = .ok (.iload_n 3, 1) := by decide +kernel
theorem dX6_came_97 : decode cX6_came 97 = .ok (.ireturn, 1) := by decide +kernel
def j_X6_came (F : Nat) (a1 : Int32) (st : sw_St) : Option (Int32 × sw_St) :=
bd (j_X6_noFits F a1 st) (fun (r2 : Int32) (s3 : sw_St) =>
(if r2 = 0 then (
 lz3 (fun f8 (x5 : Int32) (x6 : Int32) (x7 : Int32) =>
  (if 64 ≤ x7 then (
   nm (sw_setC s3 63 9 x6) (fun (s11 : sw_St) =>
   some ((x5 : Int32), s11)))
  else (
   bo (j_X6_bits F x7 s3) (fun (r13 : Int32) =>
   bnd x7 64 (
   jn (fun (x15 : Int32) => 
     bnd x7 64 (
     jn (fun (x19 : Int32) => 
       nm (x7 + 1) (fun (x22 : Int32) =>
       f8 x15 x19 x22)) (fun k20 =>
      jn (
        k20 x6) (fun k23 =>
       (if (s3.1 75 (x7 : Int32).toNatClampNeg) = 0 then (
        k23)
       else (
        (if r13 ≤ x6 then (
         k23)
        else (
         k20 r13)))))))) (fun k16 =>
    jn (
      k16 x5) (fun k27 =>
     (if (s3.1 75 (x7 : Int32).toNatClampNeg) = 0 then (
      k27)
     else (
      (if x5 ≤ r13 then (
       k27)
      else (
       k16 r13))))))))))) F 99 0 0)
else (
 some ((r2 : Int32), s3))))
set_option maxHeartbeats 4000000 in
set_option maxRecDepth 100000 in
theorem c_X6_came (F : Nat) (a1 : Int32) (st : sw_St) {r : Int32} {st1 : sw_St} (h : j_X6_came F a1 st = some (r, st1)) : sw_CI yX6_came (.code yX6_came cX6_came 7 (some .int)) 8 (fun g => [.ref (g.1 63), .int a1]) st r st1 := by
  refine sw_entI RX6 (fun g => [(0, .ref (g.1 63)), (1, .int a1)]) (by decide) rfl (fun _ => Nat.le_of_ble_eq_true rfl) (fun _ => rfl) ?_
  intro p l e s m args below meth c g X hr hlk
  unfold j_X6_came at h
  refine sw_aload_n X 0 rfl rfl dX6_came_0 ?_
  refine sw_iload_n X 1 rfl rfl dX6_came_1 ?_
  obtain ⟨r2, s3, c1, h⟩ := bd_E h
  refine sw_callVI X (o := 63) (As := (fun g => [.int a1])) sw_cl6 (show sw_kd 63 = 6 from rfl) ws_X6_noFits (by omega) (c_X6_noFits F a1 st c1) rfl rfl (Nat.le_of_ble_eq_true rfl) wm_X6_248 dX6_came_2 ?_
  refine sw_istore_n X [(2, .int r2), (0, .ref (g.1 63)), (1, .int a1)] rfl (by decide) rfl dX6_came_5 ?_
  refine sw_iload_n X 0 rfl rfl dX6_came_6 ?_
  refine sw_if_eq X 12 (by decide) dX6_came_7 (fun q4 => ?_) (fun q4 => ?_)
  · have h := ite_T h q4
    refine sw_bipush X (v := 99) (by decide) dX6_came_12 ?_
    refine sw_istore_n X [(3, .int 99), (2, .int r2), (0, .ref (g.1 63)), (1, .int a1)] rfl (by decide) rfl dX6_came_14 ?_
    refine sw_iconst X (v := 0) (by decide) dX6_came_15 ?_
    refine sw_istore X [(4, .int 0), (3, .int 99), (2, .int r2), (0, .ref (g.1 63)), (1, .int a1)] (by decide) rfl dX6_came_16 ?_
    refine sw_iconst X (v := 0) (by decide) dX6_came_18 ?_
    refine sw_istore X [(5, .int 0), (4, .int 0), (3, .int 99), (2, .int r2), (0, .ref (g.1 63)), (1, .int a1)] (by decide) rfl dX6_came_19 ?_
    refine sw_sub [4, 2, 1, 0] rfl ?_
    refine lz3_E (fun (x5 : Int32) (x6 : Int32) (x7 : Int32) => sw_V p l e 8 s m args below meth c g (sw_A g s.heap.size) (sw_QI below g args s r st1) 7 21 [(0, .ref (g.1 63)), (3, .int x5), (4, .int x6), (5, .int x7)] [] s3) h (fun f8 ih9 x5 x6 x7 h => ?_)
    refine sw_iload X 3 rfl dX6_came_21 ?_
    refine sw_bipush X (v := 64) (by decide) dX6_came_23 ?_
    refine sw_icmp_ge X 90 (by decide) dX6_came_25 (fun q10 => ?_) (fun q10 => ?_)
    · have h := ite_T h q10
      refine sw_aload_n X 0 rfl rfl dX6_came_90 ?_
      refine sw_iload X 2 rfl dX6_came_91 ?_
      refine sw_putI X sw_cl6 (show sw_kd 63 = 6 from rfl) (k := 9) rfl (by decide) rfl rfl wf_X6_58 dX6_came_93 (fun s11 es11 => ?_)
      have h := nm_E h es11
      refine sw_iload_n X 1 rfl rfl dX6_came_96 ?_
      exact sw_iret X hr hlk dX6_came_97 h
    · have h := ite_F h q10
      refine sw_iload X 3 rfl dX6_came_28 ?_
      obtain ⟨r13, c12, h⟩ := bo_E h
      refine sw_callSI X (As := (fun g => [.int x7])) ws_X6_bits (by omega) (c_X6_bits F x7 s3 c12) rfl rfl (Nat.le_of_ble_eq_true rfl) wm_X6_146 dX6_came_30 ?_
      refine sw_istore X [(6, .int r13), (0, .ref (g.1 63)), (3, .int x5), (4, .int x6), (5, .int x7)] (by decide) rfl dX6_came_33 ?_
      refine sw_aload_n X 1 rfl rfl dX6_came_35 ?_
      refine sw_getR X sw_cl6 (show sw_kd 63 = 6 from rfl) (k := 27) rfl (by decide) (o1 := 75) rfl wf_X6_47 dX6_came_36 ?_
      refine sw_iload X 4 rfl dX6_came_39 ?_
      obtain ⟨q14, h⟩ := bnd_E h
      refine sw_zald X (show sw_kd 75 = 9 from rfl) (n := 64) rfl q14 dX6_came_41 ?_
      refine jn1_E (fun (x15 : Int32) => sw_V p l e 8 s m args below meth c g (sw_A g s.heap.size) (sw_QI below g args s r st1) 7 57 [(0, .ref (g.1 63)), (4, .int x6), (5, .int x7), (6, .int r13)] [.int x15] s3) h (fun x15 h => ?_) (fun k16 J17 h => ?_)
      · refine sw_istore_n X [(3, .int x15), (0, .ref (g.1 63)), (4, .int x6), (5, .int x7), (6, .int r13)] rfl (by decide) rfl dX6_came_57 ?_
        refine sw_aload_n X 1 rfl rfl dX6_came_58 ?_
        refine sw_getR X sw_cl6 (show sw_kd 63 = 6 from rfl) (k := 27) rfl (by decide) (o1 := 75) rfl wf_X6_47 dX6_came_59 ?_
        refine sw_iload X 3 rfl dX6_came_62 ?_
        obtain ⟨q18, h⟩ := bnd_E h
        refine sw_zald X (show sw_kd 75 = 9 from rfl) (n := 64) rfl q18 dX6_came_64 ?_
        refine jn1_E (fun (x19 : Int32) => sw_V p l e 8 s m args below meth c g (sw_A g s.heap.size) (sw_QI below g args s r st1) 7 82 [(0, .ref (g.1 63)), (3, .int x15), (5, .int x7)] [.int x19] s3) h (fun x19 h => ?_) (fun k20 J21 h => ?_)
        · refine sw_istore X [(4, .int x19), (0, .ref (g.1 63)), (3, .int x15), (5, .int x7)] (by decide) rfl dX6_came_82 ?_
          obtain ⟨x22, ex22⟩ : ∃ y : Int32, y = x7 + 1 := ⟨_, rfl⟩
          have h := nm_E h ex22
          refine sw_iinc X 3 x22 [(5, .int x22), (4, .int x19), (0, .ref (g.1 63)), (3, .int x15)] rfl (by rw [ex22]; rfl) (by decide) rfl dX6_came_84 ?_
          refine sw_goto X 21 (by decide) dX6_came_87 ?_
          refine sw_sub [2, 3, 1, 0] rfl ?_
          exact ih9 _ _ _ h
        · refine jn0_E (sw_V p l e 8 s m args below meth c g (sw_A g s.heap.size) (sw_QI below g args s r st1) 7 80 [(0, .ref (g.1 63)), (3, .int x15), (4, .int x6), (5, .int x7)] [] s3) h (fun h => ?_) (fun k23 J24 h => ?_)
          · refine sw_iload X 2 rfl dX6_came_80 ?_
            refine sw_sub [0, 1, 3] rfl ?_
            exact J21 _ h
          · refine sw_if_eq X 80 (by decide) dX6_came_65 (fun q25 => ?_) (fun q25 => ?_)
            · have h := ite_T h q25
              refine sw_sub [1, 0, 2, 3] rfl ?_
              exact J24  h
            · have h := ite_F h q25
              refine sw_iload X 4 rfl dX6_came_68 ?_
              refine sw_iload X 2 rfl dX6_came_70 ?_
              refine sw_icmp_le X 80 (by decide) dX6_came_72 (fun q26 => ?_) (fun q26 => ?_)
              · have h := ite_T h q26
                refine sw_sub [1, 0, 2, 3] rfl ?_
                exact J24  h
              · have h := ite_F h q26
                refine sw_iload X 4 rfl dX6_came_75 ?_
                refine sw_goto X 82 (by decide) dX6_came_77 ?_
                refine sw_sub [1, 0, 3] rfl ?_
                exact J21 _ h
      · refine jn0_E (sw_V p l e 8 s m args below meth c g (sw_A g s.heap.size) (sw_QI below g args s r st1) 7 56 [(0, .ref (g.1 63)), (3, .int x5), (4, .int x6), (5, .int x7), (6, .int r13)] [] s3) h (fun h => ?_) (fun k27 J28 h => ?_)
        · refine sw_iload_n X 1 rfl rfl dX6_came_56 ?_
          refine sw_sub [0, 2, 3, 4] rfl ?_
          exact J17 _ h
        · refine sw_if_eq X 56 (by decide) dX6_came_42 (fun q29 => ?_) (fun q29 => ?_)
          · have h := ite_T h q29
            refine sw_sub [1, 2, 3, 4, 0] rfl ?_
            exact J28  h
          · have h := ite_F h q29
            refine sw_iload X 0 rfl dX6_came_45 ?_
            refine sw_iload_n X 2 rfl rfl dX6_came_47 ?_
            refine sw_icmp_ge X 56 (by decide) dX6_came_48 (fun q30 => ?_) (fun q30 => ?_)
            · have h := ite_T h q30
              refine sw_sub [1, 2, 3, 4, 0] rfl ?_
              exact J28  h
            · have h := ite_F h q30
              refine sw_iload X 0 rfl dX6_came_51 ?_
              refine sw_goto X 57 (by decide) dX6_came_53 ?_
              refine sw_sub [1, 3, 4, 0] rfl ?_
              exact J17 _ h
  · have h := ite_F h q4
    refine sw_iload_n X 0 rfl rfl dX6_came_10 ?_
    exact sw_iret X hr hlk dX6_came_11 h
theorem dX6_worthOf_0 : decode cX6_worthOf 0 = .ok (.aload_n 0, 1) := by decide +kernel
theorem dX6_worthOf_1 : decode cX6_worthOf 1 = .ok (.invokevirtual 187, 3) := by decide +kernel
theorem dX6_worthOf_4 : decode cX6_worthOf 4 = .ok (.iconst 0, 1) := by decide +kernel
theorem dX6_worthOf_5 : decode cX6_worthOf 5 = .ok (.istore_n 3, 1) := by decide +kernel
theorem dX6_worthOf_6 : decode cX6_worthOf 6 = .ok (.iload_n 3, 1) := by decide +kernel
theorem dX6_worthOf_7 : decode cX6_worthOf 7 = .ok (.iload_n 2, 1) := by decide +kernel
theorem dX6_worthOf_8 : decode cX6_worthOf 8 = .ok (.if_icmp .ge 49, 3) := by decide +kernel
theorem dX6_worthOf_11 : decode cX6_worthOf 11 = .ok (.aload_n 0, 1) := by decide +kernel
theorem dX6_worthOf_12 : decode cX6_worthOf 12 = .ok (.iload_n 1, 1) := by decide +kernel
theorem dX6_worthOf_13 : decode cX6_worthOf 13 = .ok (.iload_n 2, 1) := by decide +kernel
theorem dX6_worthOf_14 : decode cX6_worthOf 14 = .ok (.iload_n 3, 1) := by decide +kernel
theorem dX6_worthOf_15 : decode cX6_worthOf 15 = .ok (.invokevirtual 225, 3) := by decide +kernel
theorem dX6_worthOf_18 : decode cX6_worthOf 18 = .ok (.istore 4, 2) := by decide +kernel
theorem dX6_worthOf_20 : decode cX6_worthOf 20 = .ok (.iload 4, 2) := by decide +kernel
theorem dX6_worthOf_22 : decode cX6_worthOf 22 = .ok (.bipush (-9), 2) := by decide +kernel
theorem dX6_worthOf_24 : decode cX6_worthOf 24 = .ok (.if_icmp .eq 27, 3) := by decide +kernel
theorem dX6_worthOf_27 : decode cX6_worthOf 27 = .ok (.aload_n 0, 1) := by decide +kernel
theorem dX6_worthOf_28 : decode cX6_worthOf 28 = .ok (.sipush 828, 3) := by decide +kernel
theorem dX6_worthOf_31 : decode cX6_worthOf 31 = .ok (.iload 4, 2) := by decide +kernel
theorem dX6_worthOf_33 : decode cX6_worthOf 33 = .ok (.invokevirtual 167, 3) := by decide +kernel
theorem dX6_worthOf_36 : decode cX6_worthOf 36 = .ok (.ifCond .eq 6, 3) := by decide +kernel
theorem dX6_worthOf_39 : decode cX6_worthOf 39 = .ok (.bipush (-9), 2) := by decide +kernel
theorem dX6_worthOf_41 : decode cX6_worthOf 41 = .ok (.ireturn, 1) := by decide +kernel
theorem dX6_worthOf_42 : decode cX6_worthOf 42 = .ok (.aload_n 0, 1) := by decide +kernel
theorem dX6_worthOf_43 : decode cX6_worthOf 43 = .ok (.sipush 828, 3) := by decide +kernel
theorem dX6_worthOf_46 : decode cX6_worthOf 46 = .ok (.iload 4, 2) := by decide +kernel
theorem dX6_worthOf_48 : decode cX6_worthOf 48 = .ok (.invokevirtual 152, 3) := by decide +kernel
theorem dX6_worthOf_51 : decode cX6_worthOf 51 = .ok (.iinc 3 1, 3) := by decide +kernel
theorem dX6_worthOf_54 : decode cX6_worthOf 54 = .ok (.goto (-48), 3) := by decide +kernel
theorem dX6_worthOf_57 : decode cX6_worthOf 57 = .ok (.aload_n 0, 1) := by decide +kernel
theorem dX6_worthOf_58 : decode cX6_worthOf 58 = .ok (.getfield 7, 3) := by decide +kernel
theorem dX6_worthOf_61 : decode cX6_worthOf 61 = .ok (.sipush 829, 3) := by decide +kernel
theorem dX6_worthOf_64 : decode cX6_worthOf 64 = .ok (.iaload, 1) := by decide +kernel
theorem dX6_worthOf_65 : decode cX6_worthOf 65 = .ok (.ireturn, 1) := by decide +kernel
def j_X6_worthOf (F : Nat) (a1 : Int32) (a2 : Int32) (st : sw_St) : Option (Int32 × sw_St) :=
bd (j_X6_layTried F st) (fun (_ : Unit) (s2 : sw_St) =>
lz2 (fun f5 (x3 : Int32) (s4 : sw_St) =>
 (if a2 ≤ x3 then (
  some ((s4.1 64 829 : Int32), s4))
 else (
  bo (j_X6_whoOf F a1 a2 x3 s4) (fun (r10 : Int32) =>
  jn (fun (s11 : sw_St) => 
    nm (x3 + 1) (fun (x14 : Int32) =>
    f5 x14 s11)) (fun k12 =>
   (if r10 = (-9) then (
    k12 s4)
   else (
    bo (j_X6_isIn F 828 r10 s4) (fun (r17 : Int32) =>
    (if r17 = 0 then (
     bd (j_X6_comesIn F 828 r10 s4) (fun (_ : Unit) (s20 : sw_St) =>
     k12 s20))
    else (
     some (((-9) : Int32), s4))))))))))) F 0 s2)
set_option maxHeartbeats 4000000 in
set_option maxRecDepth 100000 in
theorem c_X6_worthOf (F : Nat) (a1 : Int32) (a2 : Int32) (st : sw_St) {r : Int32} {st1 : sw_St} (h : j_X6_worthOf F a1 a2 st = some (r, st1)) : sw_CI yX6_worthOf (.code yX6_worthOf cX6_worthOf 5 (some .int)) 5 (fun g => [.ref (g.1 63), .int a1, .int a2]) st r st1 := by
  refine sw_entI RX6 (fun g => [(0, .ref (g.1 63)), (1, .int a1), (2, .int a2)]) (by decide) rfl (fun _ => Nat.le_of_ble_eq_true rfl) (fun _ => rfl) ?_
  intro p l e s m args below meth c g X hr hlk
  unfold j_X6_worthOf at h
  refine sw_aload_n X 0 rfl rfl dX6_worthOf_0 ?_
  obtain ⟨u22, s2, c1, h⟩ := bd_E h
  refine sw_callVV X (o := 63) (As := (fun g => [])) sw_cl6 (show sw_kd 63 = 6 from rfl) ws_X6_layTried (by omega) (c_X6_layTried F st c1) rfl rfl (Nat.le_of_ble_eq_true rfl) wm_X6_187 dX6_worthOf_1 ?_
  refine sw_iconst X (v := 0) (by decide) dX6_worthOf_4 ?_
  refine sw_istore_n X [(3, .int 0), (0, .ref (g.1 63)), (1, .int a1), (2, .int a2)] rfl (by decide) rfl dX6_worthOf_5 ?_
  refine sw_sub [1, 2, 3, 0] rfl ?_
  refine lz2_E (fun (x3 : Int32) (s4 : sw_St) => sw_V p l e 5 s m args below meth c g (sw_A g s.heap.size) (sw_QI below g args s r st1) 5 6 [(0, .ref (g.1 63)), (1, .int a1), (2, .int a2), (3, .int x3)] [] s4) h (fun f5 ih6 x3 s4 h => ?_)
  refine sw_iload_n X 3 rfl rfl dX6_worthOf_6 ?_
  refine sw_iload_n X 2 rfl rfl dX6_worthOf_7 ?_
  refine sw_icmp_ge X 57 (by decide) dX6_worthOf_8 (fun q7 => ?_) (fun q7 => ?_)
  · have h := ite_T h q7
    refine sw_aload_n X 0 rfl rfl dX6_worthOf_57 ?_
    refine sw_getR X sw_cl6 (show sw_kd 63 = 6 from rfl) (k := 0) rfl (by decide) (o1 := 64) rfl wf_X6_7 dX6_worthOf_58 ?_
    refine sw_sipush X (v := 829) (by decide) dX6_worthOf_61 ?_
    refine sw_iald X (show sw_kd 64 = 8 from rfl) (n := 835) rfl (i := 829) (by unfold vp_in; decide) dX6_worthOf_64 ?_
    exact sw_iret X hr hlk dX6_worthOf_65 h
  · have h := ite_F h q7
    refine sw_aload_n X 0 rfl rfl dX6_worthOf_11 ?_
    refine sw_iload_n X 1 rfl rfl dX6_worthOf_12 ?_
    refine sw_iload_n X 2 rfl rfl dX6_worthOf_13 ?_
    refine sw_iload_n X 3 rfl rfl dX6_worthOf_14 ?_
    obtain ⟨r10, c9, h⟩ := bo_E h
    refine sw_callVI X (o := 63) (As := (fun g => [.int a1, .int a2, .int x3])) sw_cl6 (show sw_kd 63 = 6 from rfl) ws_X6_whoOf (by omega) (c_X6_whoOf F a1 a2 x3 s4 c9) rfl rfl (Nat.le_of_ble_eq_true rfl) wm_X6_225 dX6_worthOf_15 ?_
    refine sw_istore X [(4, .int r10), (0, .ref (g.1 63)), (1, .int a1), (2, .int a2), (3, .int x3)] (by decide) rfl dX6_worthOf_18 ?_
    refine sw_iload X 0 rfl dX6_worthOf_20 ?_
    refine sw_bipush X (v := (-9)) (by decide) dX6_worthOf_22 ?_
    refine jn1_E (fun (s11 : sw_St) => sw_V p l e 5 s m args below meth c g (sw_A g s.heap.size) (sw_QI below g args s r st1) 5 51 [(0, .ref (g.1 63)), (1, .int a1), (2, .int a2), (3, .int x3)] [] s11) h (fun s11 h => ?_) (fun k12 J13 h => ?_)
    · obtain ⟨x14, ex14⟩ : ∃ y : Int32, y = x3 + 1 := ⟨_, rfl⟩
      have h := nm_E h ex14
      refine sw_iinc X 3 x14 [(3, .int x14), (0, .ref (g.1 63)), (1, .int a1), (2, .int a2)] rfl (by rw [ex14]; rfl) (by decide) rfl dX6_worthOf_51 ?_
      refine sw_goto X 6 (by decide) dX6_worthOf_54 ?_
      refine sw_sub [1, 2, 3, 0] rfl ?_
      exact ih6 _ _ h
    · refine sw_icmp_eq X 51 (by decide) dX6_worthOf_24 (fun q15 => ?_) (fun q15 => ?_)
      · have h := ite_T h q15
        refine sw_sub [1, 2, 3, 4] rfl ?_
        exact J13 _ h
      · have h := ite_F h q15
        refine sw_aload_n X 1 rfl rfl dX6_worthOf_27 ?_
        refine sw_sipush X (v := 828) (by decide) dX6_worthOf_28 ?_
        refine sw_iload X 0 rfl dX6_worthOf_31 ?_
        obtain ⟨r17, c16, h⟩ := bo_E h
        refine sw_callVI X (o := 63) (As := (fun g => [.int 828, .int r10])) sw_cl6 (show sw_kd 63 = 6 from rfl) ws_X6_isIn (by omega) (c_X6_isIn F 828 r10 s4 c16) rfl rfl (Nat.le_of_ble_eq_true rfl) wm_X6_167 dX6_worthOf_33 ?_
        refine sw_if_eq X 42 (by decide) dX6_worthOf_36 (fun q18 => ?_) (fun q18 => ?_)
        · have h := ite_T h q18
          refine sw_aload_n X 1 rfl rfl dX6_worthOf_42 ?_
          refine sw_sipush X (v := 828) (by decide) dX6_worthOf_43 ?_
          refine sw_iload X 0 rfl dX6_worthOf_46 ?_
          obtain ⟨u21, s20, c19, h⟩ := bd_E h
          refine sw_callVV X (o := 63) (As := (fun g => [.int 828, .int r10])) sw_cl6 (show sw_kd 63 = 6 from rfl) ws_X6_comesIn (by omega) (c_X6_comesIn F 828 r10 s4 c19) rfl rfl (Nat.le_of_ble_eq_true rfl) wm_X6_152 dX6_worthOf_48 ?_
          refine sw_sub [1, 2, 3, 4] rfl ?_
          exact J13 _ h
        · have h := ite_F h q18
          refine sw_bipush X (v := (-9)) (by decide) dX6_worthOf_39 ?_
          exact sw_iret X hr hlk dX6_worthOf_41 h
theorem dX6_duel_0 : decode cX6_duel 0 = .ok (.iload_n 1, 1) := by decide +kernel
theorem dX6_duel_1 : decode cX6_duel 1 = .ok (.i2l, 1) := by decide +kernel
theorem dX6_duel_2 : decode cX6_duel 2 = .ok (.lconst 0, 1) := by decide +kernel
theorem dX6_duel_3 : decode cX6_duel 3 = .ok (.ldc2_w 254, 3) := by decide +kernel
theorem dX6_duel_6 : decode cX6_duel 6 = .ok (.invokestatic 63, 3) := by decide +kernel
theorem dX6_duel_9 : decode cX6_duel 9 = .ok (.ifCond .ne 5, 3) := by decide +kernel
theorem dX6_duel_12 : decode cX6_duel 12 = .ok (.iconst (-1), 1) := by decide +kernel
theorem dX6_duel_13 : decode cX6_duel 13 = .ok (.ireturn, 1) := by decide +kernel
theorem dX6_duel_14 : decode cX6_duel 14 = .ok (.aload_n 0, 1) := by decide +kernel
theorem dX6_duel_15 : decode cX6_duel 15 = .ok (.getfield 136, 3) := by decide +kernel
theorem dX6_duel_18 : decode cX6_duel 18 = .ok (.ifCond .ne 6, 3) := by decide +kernel
theorem dX6_duel_21 : decode cX6_duel 21 = .ok (.bipush (-4), 2) := by decide +kernel
theorem dX6_duel_23 : decode cX6_duel 23 = .ok (.ireturn, 1) := by decide +kernel
theorem dX6_duel_24 : decode cX6_duel 24 = .ok (.iconst 0, 1) := by decide +kernel
theorem dX6_duel_25 : decode cX6_duel 25 = .ok (.istore_n 2, 1) := by decide +kernel
theorem dX6_duel_26 : decode cX6_duel 26 = .ok (.iload_n 2, 1) := by decide +kernel
theorem dX6_duel_27 : decode cX6_duel 27 = .ok (.aload_n 0, 1) := by decide +kernel
theorem dX6_duel_28 : decode cX6_duel 28 = .ok (.iload_n 1, 1) := by decide +kernel
theorem dX6_duel_29 : decode cX6_duel 29 = .ok (.invokevirtual 213, 3) := by decide +kernel
theorem dX6_duel_32 : decode cX6_duel 32 = .ok (.if_icmp .ge 21, 3) := by decide +kernel
theorem dX6_duel_35 : decode cX6_duel 35 = .ok (.aload_n 0, 1) := by decide +kernel
theorem dX6_duel_36 : decode cX6_duel 36 = .ok (.getfield 51, 3) := by decide +kernel
theorem dX6_duel_39 : decode cX6_duel 39 = .ok (.iload_n 2, 1) := by decide +kernel
theorem dX6_duel_40 : decode cX6_duel 40 = .ok (.aload_n 0, 1) := by decide +kernel
theorem dX6_duel_41 : decode cX6_duel 41 = .ok (.iload_n 2, 1) := by decide +kernel
theorem dX6_duel_42 : decode cX6_duel 42 = .ok (.iload_n 1, 1) := by decide +kernel
theorem dX6_duel_43 : decode cX6_duel 43 = .ok (.invokevirtual 256, 3) := by decide +kernel
theorem dX6_duel_46 : decode cX6_duel 46 = .ok (.iastore, 1) := by decide +kernel
theorem dX6_duel_47 : decode cX6_duel 47 = .ok (.iinc 2 1, 3) := by decide +kernel
theorem dX6_duel_50 : decode cX6_duel 50 = .ok (.goto (-24), 3) := by decide +kernel
theorem dX6_duel_53 : decode cX6_duel 53 = .ok (.aload_n 0, 1) := by decide +kernel
theorem dX6_duel_54 : decode cX6_duel 54 = .ok (.getfield 136, 3) := by decide +kernel
theorem dX6_duel_57 : decode cX6_duel 57 = .ok (.iconst 1, 1) := by decide +kernel
theorem dX6_duel_58 : decode cX6_duel 58 = .ok (.iadd, 1) := by decide +kernel
theorem dX6_duel_59 : decode cX6_duel 59 = .ok (.istore_n 2, 1) := by decide +kernel
theorem dX6_duel_60 : decode cX6_duel 60 = .ok (.iload_n 1, 1) := by decide +kernel
theorem dX6_duel_61 : decode cX6_duel 61 = .ok (.iconst 1, 1) := by decide +kernel
theorem dX6_duel_62 : decode cX6_duel 62 = .ok (.isub, 1) := by decide +kernel
theorem dX6_duel_63 : decode cX6_duel 63 = .ok (.istore_n 3, 1) := by decide +kernel
theorem dX6_duel_64 : decode cX6_duel 64 = .ok (.iload_n 3, 1) := by decide +kernel
theorem dX6_duel_65 : decode cX6_duel 65 = .ok (.ifCond .lt 135, 3) := by decide +kernel
theorem dX6_duel_68 : decode cX6_duel 68 = .ok (.iconst 0, 1) := by decide +kernel
theorem dX6_duel_69 : decode cX6_duel 69 = .ok (.istore 4, 2) := by decide +kernel
theorem dX6_duel_71 : decode cX6_duel 71 = .ok (.iload 4, 2) := by decide +kernel
theorem dX6_duel_73 : decode cX6_duel 73 = .ok (.aload_n 0, 1) := by decide +kernel
theorem dX6_duel_74 : decode cX6_duel 74 = .ok (.iload_n 3, 1) := by decide +kernel
theorem dX6_duel_75 : decode cX6_duel 75 = .ok (.invokevirtual 213, 3) := by decide +kernel
theorem dX6_duel_78 : decode cX6_duel 78 = .ok (.if_icmp .ge 116, 3) := by decide +kernel
theorem dX6_duel_81 : decode cX6_duel 81 = .ok (.aload_n 0, 1) := by decide +kernel
theorem dX6_duel_82 : decode cX6_duel 82 = .ok (.getfield 51, 3) := by decide +kernel
theorem dX6_duel_85 : decode cX6_duel 85 = .ok (.iload_n 2, 1) := by decide +kernel
theorem dX6_duel_86 : decode cX6_duel 86 = .ok (.iload 4, 2) := by decide +kernel
theorem dX6_duel_88 : decode cX6_duel 88 = .ok (.imul, 1) := by decide +kernel
theorem dX6_duel_89 : decode cX6_duel 89 = .ok (.iaload, 1) := by decide +kernel
theorem dX6_duel_90 : decode cX6_duel 90 = .ok (.istore 5, 2) := by decide +kernel
theorem dX6_duel_92 : decode cX6_duel 92 = .ok (.iconst 1, 1) := by decide +kernel
theorem dX6_duel_93 : decode cX6_duel 93 = .ok (.istore 6, 2) := by decide +kernel
theorem dX6_duel_95 : decode cX6_duel 95 = .ok (.iload 6, 2) := by decide +kernel
theorem dX6_duel_97 : decode cX6_duel 97 = .ok (.iload_n 2, 1) := by decide +kernel
theorem dX6_duel_98 : decode cX6_duel 98 = .ok (.if_icmp .ge 81, 3) := by decide +kernel
theorem dX6_duel_101 : decode cX6_duel 101 = .ok (.aload_n 0, 1) := by decide +kernel
theorem dX6_duel_102 : decode cX6_duel 102 = .ok (.getfield 51, 3) := by decide +kernel
theorem dX6_duel_105 : decode cX6_duel 105 = .ok (.iload_n 2, 1) := by decide +kernel
theorem dX6_duel_106 : decode cX6_duel 106 = .ok (.iload 4, 2) := by decide +kernel
theorem dX6_duel_108 : decode cX6_duel 108 = .ok (.imul, 1) := by decide +kernel
theorem dX6_duel_109 : decode cX6_duel 109 = .ok (.iload 6, 2) := by decide +kernel
theorem dX6_duel_111 : decode cX6_duel 111 = .ok (.iadd, 1) := by decide +kernel
theorem dX6_duel_112 : decode cX6_duel 112 = .ok (.iaload, 1) := by decide +kernel
theorem dX6_duel_113 : decode cX6_duel 113 = .ok (.istore 7, 2) := by decide +kernel
theorem dX6_duel_115 : decode cX6_duel 115 = .ok (.iload 7, 2) := by decide +kernel
theorem dX6_duel_117 : decode cX6_duel 117 = .ok (.bipush (-9), 2) := by decide +kernel
theorem dX6_duel_119 : decode cX6_duel 119 = .ok (.if_icmp .eq 37, 3) := by decide +kernel
theorem dX6_duel_122 : decode cX6_duel 122 = .ok (.iload 5, 2) := by decide +kernel
theorem dX6_duel_124 : decode cX6_duel 124 = .ok (.bipush (-9), 2) := by decide +kernel
theorem dX6_duel_126 : decode cX6_duel 126 = .ok (.if_icmp .eq 26, 3) := by decide +kernel
theorem dX6_duel_129 : decode cX6_duel 129 = .ok (.iload_n 3, 1) := by decide +kernel
theorem dX6_duel_130 : decode cX6_duel 130 = .ok (.iconst 2, 1) := by decide +kernel
theorem dX6_duel_131 : decode cX6_duel 131 = .ok (.irem, 1) := by decide +kernel
theorem dX6_duel_132 : decode cX6_duel 132 = .ok (.ifCond .ne 13, 3) := by decide +kernel
theorem dX6_duel_135 : decode cX6_duel 135 = .ok (.iload 7, 2) := by decide +kernel
theorem dX6_duel_137 : decode cX6_duel 137 = .ok (.iload 5, 2) := by decide +kernel
theorem dX6_duel_139 : decode cX6_duel 139 = .ok (.if_icmp .le 17, 3) := by decide +kernel
theorem dX6_duel_142 : decode cX6_duel 142 = .ok (.goto 10, 3) := by decide +kernel
theorem dX6_duel_145 : decode cX6_duel 145 = .ok (.iload 7, 2) := by decide +kernel
theorem dX6_duel_147 : decode cX6_duel 147 = .ok (.iload 5, 2) := by decide +kernel
theorem dX6_duel_149 : decode cX6_duel 149 = .ok (.if_icmp .ge 7, 3) := by decide +kernel
theorem dX6_duel_152 : decode cX6_duel 152 = .ok (.iconst 1, 1) := by decide +kernel
theorem dX6_duel_153 : decode cX6_duel 153 = .ok (.goto 4, 3) := by decide +kernel
theorem dX6_duel_156 : decode cX6_duel 156 = .ok (.iconst 0, 1) := by decide +kernel
theorem dX6_duel_157 : decode cX6_duel 157 = .ok (.istore 8, 2) := by decide +kernel
theorem dX6_duel_159 : decode cX6_duel 159 = .ok (.iload 8, 2) := by decide +kernel
theorem dX6_duel_161 : decode cX6_duel 161 = .ok (.ifCond .eq 8, 3) := by decide +kernel
theorem dX6_duel_164 : decode cX6_duel 164 = .ok (.iload 7, 2) := by decide +kernel
theorem dX6_duel_166 : decode cX6_duel 166 = .ok (.goto 5, 3) := by decide +kernel
theorem dX6_duel_169 : decode cX6_duel 169 = .ok (.iload 5, 2) := by decide +kernel
theorem dX6_duel_171 : decode cX6_duel 171 = .ok (.istore 5, 2) := by decide +kernel
theorem dX6_duel_173 : decode cX6_duel 173 = .ok (.iinc 6 1, 3) := by decide +kernel
theorem dX6_duel_176 : decode cX6_duel 176 = .ok (.goto (-81), 3) := by decide +kernel
theorem dX6_duel_179 : decode cX6_duel 179 = .ok (.aload_n 0, 1) := by decide +kernel
theorem dX6_duel_180 : decode cX6_duel 180 = .ok (.getfield 51, 3) := by decide +kernel
theorem dX6_duel_183 : decode cX6_duel 183 = .ok (.iload 4, 2) := by decide +kernel
theorem dX6_duel_185 : decode cX6_duel 185 = .ok (.iload 5, 2) := by decide +kernel
theorem dX6_duel_187 : decode cX6_duel 187 = .ok (.iastore, 1) := by decide +kernel
theorem dX6_duel_188 : decode cX6_duel 188 = .ok (.iinc 4 1, 3) := by decide +kernel
theorem dX6_duel_191 : decode cX6_duel 191 = .ok (.goto (-120), 3) := by decide +kernel
theorem dX6_duel_194 : decode cX6_duel 194 = .ok (.iinc 3 (-1), 3) := by decide +kernel
theorem dX6_duel_197 : decode cX6_duel 197 = .ok (.goto (-133), 3) := by decide +kernel
theorem dX6_duel_200 : decode cX6_duel 200 = .ok (.aload_n 0, 1) := by decide +kernel
theorem dX6_duel_201 : decode cX6_duel 201 = .ok (.getfield 51, 3) := by decide +kernel
theorem dX6_duel_204 : decode cX6_duel 204 = .ok (.iconst 0, 1) := by decide +kernel
theorem dX6_duel_205 : decode cX6_duel 205 = .ok (.iaload, 1) := by decide +kernel
theorem dX6_duel_206 : decode cX6_duel 206 = .ok (.ireturn, 1) := by decide +kernel
def j_X6_duel (F : Nat) (a1 : Int32) (st : sw_St) : Option (Int32 × sw_St) :=
bo (j_X6_in F ((a1 : Int32).toInt64) 0 4 st) (fun (r2 : Int32) =>
(if r2 = 0 then (
 some (((-1) : Int32), st))
else (
 (if (st.1 63 1) = 0 then (
  some (((-4) : Int32), st))
 else (
  lz2 (fun f7 (x5 : Int32) (s6 : sw_St) =>
   bo (j_X6_power F a1 s6) (fun (r10 : Int32) =>
   (if r10 ≤ x5 then (
    nm ((s6.1 63 1) + 1) (fun (x12 : Int32) =>
    nm (a1 - 1) (fun (x13 : Int32) =>
    lz2 (fun f16 (x14 : Int32) (s15 : sw_St) =>
     (if x14 < 0 then (
      some ((s15.1 76 0 : Int32), s15))
     else (
      lz2 (fun f22 (x20 : Int32) (s21 : sw_St) =>
       bo (j_X6_power F x14 s21) (fun (r25 : Int32) =>
       (if r25 ≤ x20 then (
        nm (x14 + (-1)) (fun (x27 : Int32) =>
        f16 x27 s21))
       else (
        bnd (x12 * x20) 2401 (
        nm (s21.1 76 ((x12 * x20) : Int32).toNatClampNeg) (fun (x29 : Int32) =>
        lz2 (fun f32 (x30 : Int32) (x31 : Int32) =>
         (if x12 ≤ x31 then (
          bnd x20 2401 (
          nm (sw_setC s21 76 (x20 : Int32).toNatClampNeg x30) (fun (s36 : sw_St) =>
          nm (x20 + 1) (fun (x37 : Int32) =>
          f22 x37 s36))))
         else (
          bnd ((x12 * x20) + x31) 2401 (
          nm (s21.1 76 (((x12 * x20) + x31) : Int32).toNatClampNeg) (fun (x39 : Int32) =>
          jn (fun (x40 : Int32) => 
            jn (fun (x43 : Int32) => 
              nm (x31 + 1) (fun (x46 : Int32) =>
              f32 x43 x46)) (fun k44 =>
             (if x40 = 0 then (
              k44 x30)
             else (
              k44 x39)))) (fun k41 =>
           jn (
             k41 0) (fun k48 =>
            (if x39 = (-9) then (
             k48)
            else (
             jn (
               k41 1) (fun k51 =>
              (if x30 = (-9) then (
               k51)
              else (
               (if (x14 - x14 / 2 * 2) = 0 then (
                (if x39 ≤ x30 then (
                 k48)
                else (
                 k51)))
               else (
                (if x30 ≤ x39 then (
                 k48)
                else (
                 k51)))))))))))))))) F x29 1)))))) F 0 s15))) F x13 s6)))
   else (
    bd (j_X6_worthOf F x5 a1 s6) (fun (r58 : Int32) (s59 : sw_St) =>
    bnd x5 2401 (
    nm (sw_setC s59 76 (x5 : Int32).toNatClampNeg r58) (fun (s61 : sw_St) =>
    nm (x5 + 1) (fun (x62 : Int32) =>
    f7 x62 s61)))))))) F 0 st)))))
set_option maxHeartbeats 4000000 in
set_option maxRecDepth 100000 in
theorem c_X6_duel (F : Nat) (a1 : Int32) (st : sw_St) {r : Int32} {st1 : sw_St} (h : j_X6_duel F a1 st = some (r, st1)) : sw_CI yX6_duel (.code yX6_duel cX6_duel 9 (some .int)) 6 (fun g => [.ref (g.1 63), .int a1]) st r st1 := by
  refine sw_entI RX6 (fun g => [(0, .ref (g.1 63)), (1, .int a1)]) (by decide) rfl (fun _ => Nat.le_of_ble_eq_true rfl) (fun _ => rfl) ?_
  intro p l e s m args below meth c g X hr hlk
  unfold j_X6_duel at h
  refine sw_iload_n X 1 rfl rfl dX6_duel_0 ?_
  refine sw_i2l X dX6_duel_1 ?_
  refine sw_lconst X (v := 0) (by decide) dX6_duel_2 ?_
  refine sw_ldc2 X (v := 4) wl_X6_254 dX6_duel_3 ?_
  obtain ⟨r2, c1, h⟩ := bo_E h
  refine sw_callSI X (As := (fun g => [.long ((a1 : Int32).toInt64), .long 0, .long 4])) ws_X6_in (by omega) (c_X6_in F ((a1 : Int32).toInt64) 0 4 st c1) rfl rfl (Nat.le_of_ble_eq_true rfl) wm_X6_63 dX6_duel_6 ?_
  refine sw_if_ne X 14 (by decide) dX6_duel_9 (fun q3 => ?_) (fun q3 => ?_)
  · have h := ite_F h q3
    refine sw_aload_n X 0 rfl rfl dX6_duel_14 ?_
    refine sw_getI X sw_cl6 (show sw_kd 63 = 6 from rfl) (k := 1) rfl (by decide) wf_X6_136 dX6_duel_15 ?_
    refine sw_if_ne X 24 (by decide) dX6_duel_18 (fun q4 => ?_) (fun q4 => ?_)
    · have h := ite_F h q4
      refine sw_iconst X (v := 0) (by decide) dX6_duel_24 ?_
      refine sw_istore_n X [(2, .int 0), (0, .ref (g.1 63)), (1, .int a1)] rfl (by decide) rfl dX6_duel_25 ?_
      refine sw_sub [1, 2, 0] rfl ?_
      refine lz2_E (fun (x5 : Int32) (s6 : sw_St) => sw_V p l e 6 s m args below meth c g (sw_A g s.heap.size) (sw_QI below g args s r st1) 9 26 [(0, .ref (g.1 63)), (1, .int a1), (2, .int x5)] [] s6) h (fun f7 ih8 x5 s6 h => ?_)
      refine sw_iload_n X 2 rfl rfl dX6_duel_26 ?_
      refine sw_aload_n X 0 rfl rfl dX6_duel_27 ?_
      refine sw_iload_n X 1 rfl rfl dX6_duel_28 ?_
      obtain ⟨r10, c9, h⟩ := bo_E h
      refine sw_callVI X (o := 63) (As := (fun g => [.int a1])) sw_cl6 (show sw_kd 63 = 6 from rfl) ws_X6_power (by omega) (c_X6_power F a1 s6 c9) rfl rfl (Nat.le_of_ble_eq_true rfl) wm_X6_213 dX6_duel_29 ?_
      refine sw_icmp_ge X 53 (by decide) dX6_duel_32 (fun q11 => ?_) (fun q11 => ?_)
      · have h := ite_T h q11
        refine sw_aload_n X 0 rfl rfl dX6_duel_53 ?_
        refine sw_getI X sw_cl6 (show sw_kd 63 = 6 from rfl) (k := 1) rfl (by decide) wf_X6_136 dX6_duel_54 ?_
        refine sw_iconst X (v := 1) (by decide) dX6_duel_57 ?_
        refine sw_iadd X dX6_duel_58 ?_
        refine sw_topi (fun x12 ex12 => ?_)
        have h := nm_E h ex12
        refine sw_istore_n X [(2, .int x12), (0, .ref (g.1 63)), (1, .int a1)] rfl (by decide) rfl dX6_duel_59 ?_
        refine sw_iload_n X 2 rfl rfl dX6_duel_60 ?_
        refine sw_iconst X (v := 1) (by decide) dX6_duel_61 ?_
        refine sw_isub X dX6_duel_62 ?_
        refine sw_topi (fun x13 ex13 => ?_)
        have h := nm_E h ex13
        refine sw_istore_n X [(3, .int x13), (2, .int x12), (0, .ref (g.1 63)), (1, .int a1)] rfl (by decide) rfl dX6_duel_63 ?_
        refine sw_sub [2, 1, 0] rfl ?_
        refine lz2_E (fun (x14 : Int32) (s15 : sw_St) => sw_V p l e 6 s m args below meth c g (sw_A g s.heap.size) (sw_QI below g args s r st1) 9 64 [(0, .ref (g.1 63)), (2, .int x12), (3, .int x14)] [] s15) h (fun f16 ih17 x14 s15 h => ?_)
        refine sw_iload_n X 2 rfl rfl dX6_duel_64 ?_
        refine sw_if_lt X 200 (by decide) dX6_duel_65 (fun q18 => ?_) (fun q18 => ?_)
        · have h := ite_T h q18
          refine sw_aload_n X 0 rfl rfl dX6_duel_200 ?_
          refine sw_getR X sw_cl6 (show sw_kd 63 = 6 from rfl) (k := 28) rfl (by decide) (o1 := 76) rfl wf_X6_51 dX6_duel_201 ?_
          refine sw_iconst X (v := 0) (by decide) dX6_duel_204 ?_
          refine sw_iald X (show sw_kd 76 = 8 from rfl) (n := 2401) rfl (i := 0) (by unfold vp_in; decide) dX6_duel_205 ?_
          exact sw_iret X hr hlk dX6_duel_206 h
        · have h := ite_F h q18
          refine sw_iconst X (v := 0) (by decide) dX6_duel_68 ?_
          refine sw_istore X [(4, .int 0), (0, .ref (g.1 63)), (2, .int x12), (3, .int x14)] (by decide) rfl dX6_duel_69 ?_
          refine sw_sub [1, 2, 3, 0] rfl ?_
          refine lz2_E (fun (x20 : Int32) (s21 : sw_St) => sw_V p l e 6 s m args below meth c g (sw_A g s.heap.size) (sw_QI below g args s r st1) 9 71 [(0, .ref (g.1 63)), (2, .int x12), (3, .int x14), (4, .int x20)] [] s21) h (fun f22 ih23 x20 s21 h => ?_)
          refine sw_iload X 3 rfl dX6_duel_71 ?_
          refine sw_aload_n X 0 rfl rfl dX6_duel_73 ?_
          refine sw_iload_n X 2 rfl rfl dX6_duel_74 ?_
          obtain ⟨r25, c24, h⟩ := bo_E h
          refine sw_callVI X (o := 63) (As := (fun g => [.int x14])) sw_cl6 (show sw_kd 63 = 6 from rfl) ws_X6_power (by omega) (c_X6_power F x14 s21 c24) rfl rfl (Nat.le_of_ble_eq_true rfl) wm_X6_213 dX6_duel_75 ?_
          refine sw_icmp_ge X 194 (by decide) dX6_duel_78 (fun q26 => ?_) (fun q26 => ?_)
          · have h := ite_T h q26
            obtain ⟨x27, ex27⟩ : ∃ y : Int32, y = x14 + (-1) := ⟨_, rfl⟩
            have h := nm_E h ex27
            refine sw_iinc X 2 x27 [(3, .int x27), (0, .ref (g.1 63)), (2, .int x12), (4, .int x20)] rfl (by rw [ex27]; rfl) (by decide) rfl dX6_duel_194 ?_
            refine sw_goto X 64 (by decide) dX6_duel_197 ?_
            refine sw_sub [1, 2, 0] rfl ?_
            exact ih17 _ _ h
          · have h := ite_F h q26
            refine sw_aload_n X 0 rfl rfl dX6_duel_81 ?_
            refine sw_getR X sw_cl6 (show sw_kd 63 = 6 from rfl) (k := 28) rfl (by decide) (o1 := 76) rfl wf_X6_51 dX6_duel_82 ?_
            refine sw_iload_n X 1 rfl rfl dX6_duel_85 ?_
            refine sw_iload X 3 rfl dX6_duel_86 ?_
            refine sw_imul X dX6_duel_88 ?_
            obtain ⟨q28, h⟩ := bnd_E h
            refine sw_iald X (show sw_kd 76 = 8 from rfl) (n := 2401) rfl q28 dX6_duel_89 ?_
            refine sw_topi (fun x29 ex29 => ?_)
            have h := nm_E h ex29
            refine sw_istore X [(5, .int x29), (0, .ref (g.1 63)), (2, .int x12), (3, .int x14), (4, .int x20)] (by decide) rfl dX6_duel_90 ?_
            refine sw_iconst X (v := 1) (by decide) dX6_duel_92 ?_
            refine sw_istore X [(6, .int 1), (5, .int x29), (0, .ref (g.1 63)), (2, .int x12), (3, .int x14), (4, .int x20)] (by decide) rfl dX6_duel_93 ?_
            refine sw_sub [2, 3, 4, 5, 1, 0] rfl ?_
            refine lz2_E (fun (x30 : Int32) (x31 : Int32) => sw_V p l e 6 s m args below meth c g (sw_A g s.heap.size) (sw_QI below g args s r st1) 9 95 [(0, .ref (g.1 63)), (2, .int x12), (3, .int x14), (4, .int x20), (5, .int x30), (6, .int x31)] [] s21) h (fun f32 ih33 x30 x31 h => ?_)
            refine sw_iload X 5 rfl dX6_duel_95 ?_
            refine sw_iload_n X 1 rfl rfl dX6_duel_97 ?_
            refine sw_icmp_ge X 179 (by decide) dX6_duel_98 (fun q34 => ?_) (fun q34 => ?_)
            · have h := ite_T h q34
              refine sw_aload_n X 0 rfl rfl dX6_duel_179 ?_
              refine sw_getR X sw_cl6 (show sw_kd 63 = 6 from rfl) (k := 28) rfl (by decide) (o1 := 76) rfl wf_X6_51 dX6_duel_180 ?_
              refine sw_iload X 3 rfl dX6_duel_183 ?_
              refine sw_iload X 4 rfl dX6_duel_185 ?_
              obtain ⟨q35, h⟩ := bnd_E h
              refine sw_iast X (show sw_kd 76 = 8 from rfl) (n := 2401) rfl q35 dX6_duel_187 (fun s36 es36 => ?_)
              have h := nm_E h es36
              obtain ⟨x37, ex37⟩ : ∃ y : Int32, y = x20 + 1 := ⟨_, rfl⟩
              have h := nm_E h ex37
              refine sw_iinc X 3 x37 [(4, .int x37), (0, .ref (g.1 63)), (2, .int x12), (3, .int x14), (5, .int x30), (6, .int x31)] rfl (by rw [ex37]; rfl) (by decide) rfl dX6_duel_188 ?_
              refine sw_goto X 71 (by decide) dX6_duel_191 ?_
              refine sw_sub [1, 2, 3, 0] rfl ?_
              exact ih23 _ _ h
            · have h := ite_F h q34
              refine sw_aload_n X 0 rfl rfl dX6_duel_101 ?_
              refine sw_getR X sw_cl6 (show sw_kd 63 = 6 from rfl) (k := 28) rfl (by decide) (o1 := 76) rfl wf_X6_51 dX6_duel_102 ?_
              refine sw_iload_n X 1 rfl rfl dX6_duel_105 ?_
              refine sw_iload X 3 rfl dX6_duel_106 ?_
              refine sw_imul X dX6_duel_108 ?_
              refine sw_iload X 5 rfl dX6_duel_109 ?_
              refine sw_iadd X dX6_duel_111 ?_
              obtain ⟨q38, h⟩ := bnd_E h
              refine sw_iald X (show sw_kd 76 = 8 from rfl) (n := 2401) rfl q38 dX6_duel_112 ?_
              refine sw_topi (fun x39 ex39 => ?_)
              have h := nm_E h ex39
              refine sw_istore X [(7, .int x39), (0, .ref (g.1 63)), (2, .int x12), (3, .int x14), (4, .int x20), (5, .int x30), (6, .int x31)] (by decide) rfl dX6_duel_113 ?_
              refine sw_iload X 0 rfl dX6_duel_115 ?_
              refine sw_bipush X (v := (-9)) (by decide) dX6_duel_117 ?_
              refine jn1_E (fun (x40 : Int32) => sw_V p l e 6 s m args below meth c g (sw_A g s.heap.size) (sw_QI below g args s r st1) 9 157 [(0, .ref (g.1 63)), (2, .int x12), (3, .int x14), (4, .int x20), (5, .int x30), (6, .int x31), (7, .int x39)] [.int x40] s21) h (fun x40 h => ?_) (fun k41 J42 h => ?_)
              · refine sw_istore X [(8, .int x40), (0, .ref (g.1 63)), (2, .int x12), (3, .int x14), (4, .int x20), (5, .int x30), (6, .int x31), (7, .int x39)] (by decide) rfl dX6_duel_157 ?_
                refine sw_iload X 0 rfl dX6_duel_159 ?_
                refine jn1_E (fun (x43 : Int32) => sw_V p l e 6 s m args below meth c g (sw_A g s.heap.size) (sw_QI below g args s r st1) 9 171 [(0, .ref (g.1 63)), (2, .int x12), (3, .int x14), (4, .int x20), (6, .int x31)] [.int x43] s21) h (fun x43 h => ?_) (fun k44 J45 h => ?_)
                · refine sw_istore X [(5, .int x43), (0, .ref (g.1 63)), (2, .int x12), (3, .int x14), (4, .int x20), (6, .int x31)] (by decide) rfl dX6_duel_171 ?_
                  obtain ⟨x46, ex46⟩ : ∃ y : Int32, y = x31 + 1 := ⟨_, rfl⟩
                  have h := nm_E h ex46
                  refine sw_iinc X 5 x46 [(6, .int x46), (5, .int x43), (0, .ref (g.1 63)), (2, .int x12), (3, .int x14), (4, .int x20)] rfl (by rw [ex46]; rfl) (by decide) rfl dX6_duel_173 ?_
                  refine sw_goto X 95 (by decide) dX6_duel_176 ?_
                  refine sw_sub [2, 3, 4, 5, 1, 0] rfl ?_
                  exact ih33 _ _ h
                · refine sw_if_eq X 169 (by decide) dX6_duel_161 (fun q47 => ?_) (fun q47 => ?_)
                  · have h := ite_T h q47
                    refine sw_iload X 5 rfl dX6_duel_169 ?_
                    refine sw_sub [1, 2, 3, 4, 6] rfl ?_
                    exact J45 _ h
                  · have h := ite_F h q47
                    refine sw_iload X 7 rfl dX6_duel_164 ?_
                    refine sw_goto X 171 (by decide) dX6_duel_166 ?_
                    refine sw_sub [1, 2, 3, 4, 6] rfl ?_
                    exact J45 _ h
              · refine jn0_E (sw_V p l e 6 s m args below meth c g (sw_A g s.heap.size) (sw_QI below g args s r st1) 9 156 [(0, .ref (g.1 63)), (2, .int x12), (3, .int x14), (4, .int x20), (5, .int x30), (6, .int x31), (7, .int x39)] [] s21) h (fun h => ?_) (fun k48 J49 h => ?_)
                · refine sw_iconst X (v := 0) (by decide) dX6_duel_156 ?_
                  exact J42 _ h
                · refine sw_icmp_eq X 156 (by decide) dX6_duel_119 (fun q50 => ?_) (fun q50 => ?_)
                  · have h := ite_T h q50
                    refine sw_sub [1, 2, 3, 4, 5, 6, 0] rfl ?_
                    exact J49  h
                  · have h := ite_F h q50
                    refine sw_iload X 5 rfl dX6_duel_122 ?_
                    refine sw_bipush X (v := (-9)) (by decide) dX6_duel_124 ?_
                    refine jn0_E (sw_V p l e 6 s m args below meth c g (sw_A g s.heap.size) (sw_QI below g args s r st1) 9 152 [(0, .ref (g.1 63)), (2, .int x12), (3, .int x14), (4, .int x20), (5, .int x30), (6, .int x31), (7, .int x39)] [] s21) h (fun h => ?_) (fun k51 J52 h => ?_)
                    · refine sw_iconst X (v := 1) (by decide) dX6_duel_152 ?_
                      refine sw_goto X 157 (by decide) dX6_duel_153 ?_
                      exact J42 _ h
                    · refine sw_icmp_eq X 152 (by decide) dX6_duel_126 (fun q53 => ?_) (fun q53 => ?_)
                      · have h := ite_T h q53
                        refine sw_sub [1, 2, 3, 4, 5, 6, 0] rfl ?_
                        exact J52  h
                      · have h := ite_F h q53
                        refine sw_iload_n X 3 rfl rfl dX6_duel_129 ?_
                        refine sw_iconst X (v := 2) (by decide) dX6_duel_130 ?_
                        refine sw_irem X (by decide) dX6_duel_131 ?_
                        refine sw_if_ne X 145 (by decide) dX6_duel_132 (fun q54 => ?_) (fun q54 => ?_)
                        · have h := ite_F h q54
                          refine sw_iload X 0 rfl dX6_duel_145 ?_
                          refine sw_iload X 5 rfl dX6_duel_147 ?_
                          refine sw_icmp_ge X 156 (by decide) dX6_duel_149 (fun q55 => ?_) (fun q55 => ?_)
                          · have h := ite_T h q55
                            refine sw_sub [1, 2, 3, 4, 5, 6, 0] rfl ?_
                            exact J49  h
                          · have h := ite_F h q55
                            refine sw_sub [1, 2, 3, 4, 5, 6, 0] rfl ?_
                            exact J52  h
                        · have h := ite_T h q54
                          refine sw_iload X 0 rfl dX6_duel_135 ?_
                          refine sw_iload X 5 rfl dX6_duel_137 ?_
                          refine sw_icmp_le X 156 (by decide) dX6_duel_139 (fun q56 => ?_) (fun q56 => ?_)
                          · have h := ite_T h q56
                            refine sw_sub [1, 2, 3, 4, 5, 6, 0] rfl ?_
                            exact J49  h
                          · have h := ite_F h q56
                            refine sw_goto X 152 (by decide) dX6_duel_142 ?_
                            refine sw_sub [1, 2, 3, 4, 5, 6, 0] rfl ?_
                            exact J52  h
      · have h := ite_F h q11
        refine sw_aload_n X 0 rfl rfl dX6_duel_35 ?_
        refine sw_getR X sw_cl6 (show sw_kd 63 = 6 from rfl) (k := 28) rfl (by decide) (o1 := 76) rfl wf_X6_51 dX6_duel_36 ?_
        refine sw_iload_n X 2 rfl rfl dX6_duel_39 ?_
        refine sw_aload_n X 0 rfl rfl dX6_duel_40 ?_
        refine sw_iload_n X 2 rfl rfl dX6_duel_41 ?_
        refine sw_iload_n X 1 rfl rfl dX6_duel_42 ?_
        obtain ⟨r58, s59, c57, h⟩ := bd_E h
        refine sw_callVI X (o := 63) (As := (fun g => [.int x5, .int a1])) sw_cl6 (show sw_kd 63 = 6 from rfl) ws_X6_worthOf (by omega) (c_X6_worthOf F x5 a1 s6 c57) rfl rfl (Nat.le_of_ble_eq_true rfl) wm_X6_256 dX6_duel_43 ?_
        obtain ⟨q60, h⟩ := bnd_E h
        refine sw_iast X (show sw_kd 76 = 8 from rfl) (n := 2401) rfl q60 dX6_duel_46 (fun s61 es61 => ?_)
        have h := nm_E h es61
        obtain ⟨x62, ex62⟩ : ∃ y : Int32, y = x5 + 1 := ⟨_, rfl⟩
        have h := nm_E h ex62
        refine sw_iinc X 2 x62 [(2, .int x62), (0, .ref (g.1 63)), (1, .int a1)] rfl (by rw [ex62]; rfl) (by decide) rfl dX6_duel_47 ?_
        refine sw_goto X 26 (by decide) dX6_duel_50 ?_
        refine sw_sub [1, 2, 0] rfl ?_
        exact ih8 _ _ h
    · have h := ite_T h q4
      refine sw_bipush X (v := (-4)) (by decide) dX6_duel_21 ?_
      exact sw_iret X hr hlk dX6_duel_23 h
  · have h := ite_T h q3
    refine sw_iconst X (v := (-1)) (by decide) dX6_duel_12 ?_
    exact sw_iret X hr hlk dX6_duel_13 h
theorem dX6_shut_0 : decode cX6_shut 0 = .ok (.iload_n 1, 1) := by decide +kernel
theorem dX6_shut_1 : decode cX6_shut 1 = .ok (.i2l, 1) := by decide +kernel
theorem dX6_shut_2 : decode cX6_shut 2 = .ok (.lconst 0, 1) := by decide +kernel
theorem dX6_shut_3 : decode cX6_shut 3 = .ok (.lconst 1, 1) := by decide +kernel
theorem dX6_shut_4 : decode cX6_shut 4 = .ok (.invokestatic 63, 3) := by decide +kernel
theorem dX6_shut_7 : decode cX6_shut 7 = .ok (.ifCond .ne 5, 3) := by decide +kernel
theorem dX6_shut_10 : decode cX6_shut 10 = .ok (.iconst (-1), 1) := by decide +kernel
theorem dX6_shut_11 : decode cX6_shut 11 = .ok (.ireturn, 1) := by decide +kernel
theorem dX6_shut_12 : decode cX6_shut 12 = .ok (.aload_n 0, 1) := by decide +kernel
theorem dX6_shut_13 : decode cX6_shut 13 = .ok (.getfield 136, 3) := by decide +kernel
theorem dX6_shut_16 : decode cX6_shut 16 = .ok (.ifCond .ne 6, 3) := by decide +kernel
theorem dX6_shut_19 : decode cX6_shut 19 = .ok (.bipush (-4), 2) := by decide +kernel
theorem dX6_shut_21 : decode cX6_shut 21 = .ok (.ireturn, 1) := by decide +kernel
theorem dX6_shut_22 : decode cX6_shut 22 = .ok (.aload_n 0, 1) := by decide +kernel
theorem dX6_shut_23 : decode cX6_shut 23 = .ok (.invokevirtual 201, 3) := by decide +kernel
theorem dX6_shut_26 : decode cX6_shut 26 = .ok (.istore_n 2, 1) := by decide +kernel
theorem dX6_shut_27 : decode cX6_shut 27 = .ok (.iconst 0, 1) := by decide +kernel
theorem dX6_shut_28 : decode cX6_shut 28 = .ok (.istore_n 3, 1) := by decide +kernel
theorem dX6_shut_29 : decode cX6_shut 29 = .ok (.iload_n 3, 1) := by decide +kernel
theorem dX6_shut_30 : decode cX6_shut 30 = .ok (.aload_n 0, 1) := by decide +kernel
theorem dX6_shut_31 : decode cX6_shut 31 = .ok (.getfield 136, 3) := by decide +kernel
theorem dX6_shut_34 : decode cX6_shut 34 = .ok (.if_icmp .ge 37, 3) := by decide +kernel
theorem dX6_shut_37 : decode cX6_shut 37 = .ok (.iload_n 2, 1) := by decide +kernel
theorem dX6_shut_38 : decode cX6_shut 38 = .ok (.aload_n 0, 1) := by decide +kernel
theorem dX6_shut_39 : decode cX6_shut 39 = .ok (.getfield 7, 3) := by decide +kernel
theorem dX6_shut_42 : decode cX6_shut 42 = .ok (.bipush 6, 2) := by decide +kernel
theorem dX6_shut_44 : decode cX6_shut 44 = .ok (.iaload, 1) := by decide +kernel
theorem dX6_shut_45 : decode cX6_shut 45 = .ok (.iload_n 3, 1) := by decide +kernel
theorem dX6_shut_46 : decode cX6_shut 46 = .ok (.ishr, 1) := by decide +kernel
theorem dX6_shut_47 : decode cX6_shut 47 = .ok (.iconst 1, 1) := by decide +kernel
theorem dX6_shut_48 : decode cX6_shut 48 = .ok (.iand, 1) := by decide +kernel
theorem dX6_shut_49 : decode cX6_shut 49 = .ok (.iload_n 1, 1) := by decide +kernel
theorem dX6_shut_50 : decode cX6_shut 50 = .ok (.if_icmp .ne 11, 3) := by decide +kernel
theorem dX6_shut_53 : decode cX6_shut 53 = .ok (.iconst 1, 1) := by decide +kernel
theorem dX6_shut_54 : decode cX6_shut 54 = .ok (.iload_n 3, 1) := by decide +kernel
theorem dX6_shut_55 : decode cX6_shut 55 = .ok (.ishl, 1) := by decide +kernel
theorem dX6_shut_56 : decode cX6_shut 56 = .ok (.iconst (-1), 1) := by decide +kernel
theorem dX6_shut_57 : decode cX6_shut 57 = .ok (.ixor, 1) := by decide +kernel
theorem dX6_shut_58 : decode cX6_shut 58 = .ok (.goto 5, 3) := by decide +kernel
theorem dX6_shut_61 : decode cX6_shut 61 = .ok (.bipush 63, 2) := by decide +kernel
theorem dX6_shut_63 : decode cX6_shut 63 = .ok (.iand, 1) := by decide +kernel
theorem dX6_shut_64 : decode cX6_shut 64 = .ok (.istore_n 2, 1) := by decide +kernel
theorem dX6_shut_65 : decode cX6_shut 65 = .ok (.iinc 3 1, 3) := by decide +kernel
theorem dX6_shut_68 : decode cX6_shut 68 = .ok (.goto (-39), 3) := by decide +kernel
theorem dX6_shut_71 : decode cX6_shut 71 = .ok (.aload_n 0, 1) := by decide +kernel
theorem dX6_shut_72 : decode cX6_shut 72 = .ok (.iload_n 2, 1) := by decide +kernel
theorem dX6_shut_73 : decode cX6_shut 73 = .ok (.invokevirtual 207, 3) := by decide +kernel
theorem dX6_shut_76 : decode cX6_shut 76 = .ok (.ireturn, 1) := by decide +kernel
def j_X6_shut (F : Nat) (a1 : Int32) (st : sw_St) : Option (Int32 × sw_St) :=
bo (j_X6_in F ((a1 : Int32).toInt64) 0 1 st) (fun (r2 : Int32) =>
(if r2 = 0 then (
 some (((-1) : Int32), st))
else (
 (if (st.1 63 1) = 0 then (
  some (((-4) : Int32), st))
 else (
  bo (j_X6_out F st) (fun (r6 : Int32) =>
  lz2 (fun f9 (x7 : Int32) (x8 : Int32) =>
   (if (st.1 63 1) ≤ x8 then (
    bd (j_X6_woundBy F x7 st) (fun (r13 : Int32) (s14 : sw_St) =>
    some ((r13 : Int32), s14)))
   else (
    jn (fun (x16 : Int32) => 
      nm (x7 &&& x16) (fun (x19 : Int32) =>
      nm (x8 + 1) (fun (x20 : Int32) =>
      f9 x19 x20))) (fun k17 =>
     (if (((st.1 64 6) >>> (x8 &&& 31)) &&& 1) = a1 then (
      k17 ((1 <<< (x8 &&& 31)) ^^^ (-1)))
     else (
      k17 63)))))) F r6 0))))))
set_option maxHeartbeats 4000000 in
set_option maxRecDepth 100000 in
theorem c_X6_shut (F : Nat) (a1 : Int32) (st : sw_St) {r : Int32} {st1 : sw_St} (h : j_X6_shut F a1 st = some (r, st1)) : sw_CI yX6_shut (.code yX6_shut cX6_shut 4 (some .int)) 7 (fun g => [.ref (g.1 63), .int a1]) st r st1 := by
  refine sw_entI RX6 (fun g => [(0, .ref (g.1 63)), (1, .int a1)]) (by decide) rfl (fun _ => Nat.le_of_ble_eq_true rfl) (fun _ => rfl) ?_
  intro p l e s m args below meth c g X hr hlk
  unfold j_X6_shut at h
  refine sw_iload_n X 1 rfl rfl dX6_shut_0 ?_
  refine sw_i2l X dX6_shut_1 ?_
  refine sw_lconst X (v := 0) (by decide) dX6_shut_2 ?_
  refine sw_lconst X (v := 1) (by decide) dX6_shut_3 ?_
  obtain ⟨r2, c1, h⟩ := bo_E h
  refine sw_callSI X (As := (fun g => [.long ((a1 : Int32).toInt64), .long 0, .long 1])) ws_X6_in (by omega) (c_X6_in F ((a1 : Int32).toInt64) 0 1 st c1) rfl rfl (Nat.le_of_ble_eq_true rfl) wm_X6_63 dX6_shut_4 ?_
  refine sw_if_ne X 12 (by decide) dX6_shut_7 (fun q3 => ?_) (fun q3 => ?_)
  · have h := ite_F h q3
    refine sw_aload_n X 0 rfl rfl dX6_shut_12 ?_
    refine sw_getI X sw_cl6 (show sw_kd 63 = 6 from rfl) (k := 1) rfl (by decide) wf_X6_136 dX6_shut_13 ?_
    refine sw_if_ne X 22 (by decide) dX6_shut_16 (fun q4 => ?_) (fun q4 => ?_)
    · have h := ite_F h q4
      refine sw_aload_n X 0 rfl rfl dX6_shut_22 ?_
      obtain ⟨r6, c5, h⟩ := bo_E h
      refine sw_callVI X (o := 63) (As := (fun g => [])) sw_cl6 (show sw_kd 63 = 6 from rfl) ws_X6_out (by omega) (c_X6_out F st c5) rfl rfl (Nat.le_of_ble_eq_true rfl) wm_X6_201 dX6_shut_23 ?_
      refine sw_istore_n X [(2, .int r6), (0, .ref (g.1 63)), (1, .int a1)] rfl (by decide) rfl dX6_shut_26 ?_
      refine sw_iconst X (v := 0) (by decide) dX6_shut_27 ?_
      refine sw_istore_n X [(3, .int 0), (2, .int r6), (0, .ref (g.1 63)), (1, .int a1)] rfl (by decide) rfl dX6_shut_28 ?_
      refine sw_sub [2, 3, 1, 0] rfl ?_
      refine lz2_E (fun (x7 : Int32) (x8 : Int32) => sw_V p l e 7 s m args below meth c g (sw_A g s.heap.size) (sw_QI below g args s r st1) 4 29 [(0, .ref (g.1 63)), (1, .int a1), (2, .int x7), (3, .int x8)] [] st) h (fun f9 ih10 x7 x8 h => ?_)
      refine sw_iload_n X 3 rfl rfl dX6_shut_29 ?_
      refine sw_aload_n X 0 rfl rfl dX6_shut_30 ?_
      refine sw_getI X sw_cl6 (show sw_kd 63 = 6 from rfl) (k := 1) rfl (by decide) wf_X6_136 dX6_shut_31 ?_
      refine sw_icmp_ge X 71 (by decide) dX6_shut_34 (fun q11 => ?_) (fun q11 => ?_)
      · have h := ite_T h q11
        refine sw_aload_n X 0 rfl rfl dX6_shut_71 ?_
        refine sw_iload_n X 2 rfl rfl dX6_shut_72 ?_
        obtain ⟨r13, s14, c12, h⟩ := bd_E h
        refine sw_callVI X (o := 63) (As := (fun g => [.int x7])) sw_cl6 (show sw_kd 63 = 6 from rfl) ws_X6_woundBy (by omega) (c_X6_woundBy F x7 st c12) rfl rfl (Nat.le_of_ble_eq_true rfl) wm_X6_207 dX6_shut_73 ?_
        exact sw_iret X hr hlk dX6_shut_76 h
      · have h := ite_F h q11
        refine sw_iload_n X 2 rfl rfl dX6_shut_37 ?_
        refine sw_aload_n X 0 rfl rfl dX6_shut_38 ?_
        refine sw_getR X sw_cl6 (show sw_kd 63 = 6 from rfl) (k := 0) rfl (by decide) (o1 := 64) rfl wf_X6_7 dX6_shut_39 ?_
        refine sw_bipush X (v := 6) (by decide) dX6_shut_42 ?_
        refine sw_iald X (show sw_kd 64 = 8 from rfl) (n := 835) rfl (i := 6) (by unfold vp_in; decide) dX6_shut_44 ?_
        refine sw_iload_n X 3 rfl rfl dX6_shut_45 ?_
        refine sw_ishr X dX6_shut_46 ?_
        refine sw_iconst X (v := 1) (by decide) dX6_shut_47 ?_
        refine sw_iand X dX6_shut_48 ?_
        refine sw_iload_n X 1 rfl rfl dX6_shut_49 ?_
        refine jn1_E (fun (x16 : Int32) => sw_V p l e 7 s m args below meth c g (sw_A g s.heap.size) (sw_QI below g args s r st1) 4 63 [(0, .ref (g.1 63)), (1, .int a1), (3, .int x8)] [.int x16, .int x7] st) h (fun x16 h => ?_) (fun k17 J18 h => ?_)
        · refine sw_iand X dX6_shut_63 ?_
          refine sw_topi (fun x19 ex19 => ?_)
          have h := nm_E h ex19
          refine sw_istore_n X [(2, .int x19), (0, .ref (g.1 63)), (1, .int a1), (3, .int x8)] rfl (by decide) rfl dX6_shut_64 ?_
          obtain ⟨x20, ex20⟩ : ∃ y : Int32, y = x8 + 1 := ⟨_, rfl⟩
          have h := nm_E h ex20
          refine sw_iinc X 3 x20 [(3, .int x20), (2, .int x19), (0, .ref (g.1 63)), (1, .int a1)] rfl (by rw [ex20]; rfl) (by decide) rfl dX6_shut_65 ?_
          refine sw_goto X 29 (by decide) dX6_shut_68 ?_
          refine sw_sub [2, 3, 1, 0] rfl ?_
          exact ih10 _ _ h
        · refine sw_icmp_ne X 61 (by decide) dX6_shut_50 (fun q21 => ?_) (fun q21 => ?_)
          · have h := ite_F h q21
            refine sw_bipush X (v := 63) (by decide) dX6_shut_61 ?_
            refine sw_sub [0, 1, 3] rfl ?_
            exact J18 _ h
          · have h := ite_T h q21
            refine sw_iconst X (v := 1) (by decide) dX6_shut_53 ?_
            refine sw_iload_n X 3 rfl rfl dX6_shut_54 ?_
            refine sw_ishl X dX6_shut_55 ?_
            refine sw_iconst X (v := (-1)) (by decide) dX6_shut_56 ?_
            refine sw_ixor X dX6_shut_57 ?_
            refine sw_goto X 63 (by decide) dX6_shut_58 ?_
            refine sw_sub [0, 1, 3] rfl ?_
            exact J18 _ h
    · have h := ite_T h q4
      refine sw_bipush X (v := (-4)) (by decide) dX6_shut_19 ?_
      exact sw_iret X hr hlk dX6_shut_21 h
  · have h := ite_T h q3
    refine sw_iconst X (v := (-1)) (by decide) dX6_shut_10 ?_
    exact sw_iret X hr hlk dX6_shut_11 h
