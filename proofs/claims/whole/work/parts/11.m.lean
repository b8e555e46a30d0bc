theorem dX1_weigh_0 : decode cX1_weigh 0 = .ok (.iload_n 2, 1) := by decide +kernel
theorem dX1_weigh_1 : decode cX1_weigh 1 = .ok (.invokestatic 67, 3) := by decide +kernel
theorem dX1_weigh_4 : decode cX1_weigh 4 = .ok (.aload_n 1, 1) := by decide +kernel
theorem dX1_weigh_5 : decode cX1_weigh 5 = .ok (.getfield 42, 3) := by decide +kernel
theorem dX1_weigh_8 : decode cX1_weigh 8 = .ok (.invokestatic 67, 3) := by decide +kernel
theorem dX1_weigh_11 : decode cX1_weigh 11 = .ok (.isub, 1) := by decide +kernel
theorem dX1_weigh_12 : decode cX1_weigh 12 = .ok (.istore 5, 2) := by decide +kernel
theorem dX1_weigh_14 : decode cX1_weigh 14 = .ok (.iload 4, 2) := by decide +kernel
theorem dX1_weigh_16 : decode cX1_weigh 16 = .ok (.aload_n 0, 1) := by decide +kernel
theorem dX1_weigh_17 : decode cX1_weigh 17 = .ok (.getfield 31, 3) := by decide +kernel
theorem dX1_weigh_20 : decode cX1_weigh 20 = .ok (.if_icmp .gt 21, 3) := by decide +kernel
theorem dX1_weigh_23 : decode cX1_weigh 23 = .ok (.iload 4, 2) := by decide +kernel
theorem dX1_weigh_25 : decode cX1_weigh 25 = .ok (.aload_n 0, 1) := by decide +kernel
theorem dX1_weigh_26 : decode cX1_weigh 26 = .ok (.getfield 31, 3) := by decide +kernel
theorem dX1_weigh_29 : decode cX1_weigh 29 = .ok (.if_icmp .ne 24, 3) := by decide +kernel
theorem dX1_weigh_32 : decode cX1_weigh 32 = .ok (.iload 5, 2) := by decide +kernel
theorem dX1_weigh_34 : decode cX1_weigh 34 = .ok (.aload_n 0, 1) := by decide +kernel
theorem dX1_weigh_35 : decode cX1_weigh 35 = .ok (.getfield 34, 3) := by decide +kernel
theorem dX1_weigh_38 : decode cX1_weigh 38 = .ok (.if_icmp .ge 15, 3) := by decide +kernel
theorem dX1_weigh_41 : decode cX1_weigh 41 = .ok (.aload_n 0, 1) := by decide +kernel
theorem dX1_weigh_42 : decode cX1_weigh 42 = .ok (.iload 4, 2) := by decide +kernel
theorem dX1_weigh_44 : decode cX1_weigh 44 = .ok (.putfield 31, 3) := by decide +kernel
theorem dX1_weigh_47 : decode cX1_weigh 47 = .ok (.aload_n 0, 1) := by decide +kernel
theorem dX1_weigh_48 : decode cX1_weigh 48 = .ok (.iload 5, 2) := by decide +kernel
theorem dX1_weigh_50 : decode cX1_weigh 50 = .ok (.putfield 34, 3) := by decide +kernel
theorem dX1_weigh_53 : decode cX1_weigh 53 = .ok (.aload_n 1, 1) := by decide +kernel
theorem dX1_weigh_54 : decode cX1_weigh 54 = .ok (.iload 4, 2) := by decide +kernel
theorem dX1_weigh_56 : decode cX1_weigh 56 = .ok (.invokevirtual 72, 3) := by decide +kernel
theorem dX1_weigh_59 : decode cX1_weigh 59 = .ok (.aload_n 0, 1) := by decide +kernel
theorem dX1_weigh_60 : decode cX1_weigh 60 = .ok (.getfield 15, 3) := by decide +kernel
theorem dX1_weigh_63 : decode cX1_weigh 63 = .ok (.if_icmp .eq 4, 3) := by decide +kernel
theorem dX1_weigh_66 : decode cX1_weigh 66 = .ok (.return_, 1) := by decide +kernel
theorem dX1_weigh_67 : decode cX1_weigh 67 = .ok (.aload_n 0, 1) := by decide +kernel
theorem dX1_weigh_68 : decode cX1_weigh 68 = .ok (.dup, 1) := by decide +kernel
theorem dX1_weigh_69 : decode cX1_weigh 69 = .ok (.getfield 25, 3) := by decide +kernel
theorem dX1_weigh_72 : decode cX1_weigh 72 = .ok (.iconst 1, 1) := by decide +kernel
theorem dX1_weigh_73 : decode cX1_weigh 73 = .ok (.iadd, 1) := by decide +kernel
theorem dX1_weigh_74 : decode cX1_weigh 74 = .ok (.putfield 25, 3) := by decide +kernel
theorem dX1_weigh_77 : decode cX1_weigh 77 = .ok (.aload_n 0, 1) := by decide +kernel
theorem dX1_weigh_78 : decode cX1_weigh 78 = .ok (.getfield 28, 3) := by decide +kernel
theorem dX1_weigh_81 : decode cX1_weigh 81 = .ok (.bipush (-9), 2) := by decide +kernel
theorem dX1_weigh_83 : decode cX1_weigh 83 = .ok (.if_icmp .eq 11, 3) := by decide +kernel
theorem dX1_weigh_86 : decode cX1_weigh 86 = .ok (.iload_n 3, 1) := by decide +kernel
theorem dX1_weigh_87 : decode cX1_weigh 87 = .ok (.aload_n 0, 1) := by decide +kernel
theorem dX1_weigh_88 : decode cX1_weigh 88 = .ok (.getfield 28, 3) := by decide +kernel
theorem dX1_weigh_91 : decode cX1_weigh 91 = .ok (.if_icmp .ge 25, 3) := by decide +kernel
theorem dX1_weigh_94 : decode cX1_weigh 94 = .ok (.aload_n 0, 1) := by decide +kernel
theorem dX1_weigh_95 : decode cX1_weigh 95 = .ok (.iload_n 3, 1) := by decide +kernel
theorem dX1_weigh_96 : decode cX1_weigh 96 = .ok (.putfield 28, 3) := by decide +kernel
theorem dX1_weigh_99 : decode cX1_weigh 99 = .ok (.aload_n 0, 1) := by decide +kernel
theorem dX1_weigh_100 : decode cX1_weigh 100 = .ok (.getfield 18, 3) := by decide +kernel
theorem dX1_weigh_103 : decode cX1_weigh 103 = .ok (.iconst 0, 1) := by decide +kernel
theorem dX1_weigh_104 : decode cX1_weigh 104 = .ok (.aload_n 0, 1) := by decide +kernel
theorem dX1_weigh_105 : decode cX1_weigh 105 = .ok (.getfield 22, 3) := by decide +kernel
theorem dX1_weigh_108 : decode cX1_weigh 108 = .ok (.iconst 0, 1) := by decide +kernel
theorem dX1_weigh_109 : decode cX1_weigh 109 = .ok (.aload_n 0, 1) := by decide +kernel
theorem dX1_weigh_110 : decode cX1_weigh 110 = .ok (.getfield 9, 3) := by decide +kernel
theorem dX1_weigh_113 : decode cX1_weigh 113 = .ok (.invokestatic 75, 3) := by decide +kernel
theorem dX1_weigh_116 : decode cX1_weigh 116 = .ok (.return_, 1) := by decide +kernel
def j_X1_weigh (F : Nat) (a2 : Int32) (a3 : Int32) (a4 : Int32) (st : sw_St) : Option (Unit × sw_St) :=
bo (j_J6_bitCount_0f7a4 F a2 st) (fun (r2 : Int32) =>
bo (j_J6_bitCount_0f7a4 F (st.1 15 11) st) (fun (r4 : Int32) =>
nm (r2 - r4) (fun (x5 : Int32) =>
jn (fun (s6 : sw_St) => 
  bo (j_X4_clockAfter F 15 a4 s6) (fun (r10 : Int32) =>
  (if r10 = (s6.1 54 1) then (
   nm (sw_setC s6 54 4 ((s6.1 54 4) + 1)) (fun (s12 : sw_St) =>
   jn (fun (s13 : sw_St) => 
     some ((), s13)) (fun k14 =>
    jn (
      nm (sw_setC s12 54 5 a3) (fun (s18 : sw_St) =>
      grd ((¬ 0 < (0 : Int32)) ∧ (¬ 0 < (0 : Int32)) ∧ (¬ (s18.1 54 0) < (0 : Int32)) ∧ (0 : Int32).toNatClampNeg + ((s18.1 54 0) : Int32).toNatClampNeg ≤ 5 ∧ (0 : Int32).toNatClampNeg + ((s18.1 54 0) : Int32).toNatClampNeg ≤ 5) (
      nm (sw_setA s18 56 (va_cpy (s18.1 55) (s18.1 56) (0 : Int32).toNatClampNeg (0 : Int32).toNatClampNeg ((s18.1 54 0) : Int32).toNatClampNeg)) (fun (s19 : sw_St) =>
      k14 s19)))) (fun k16 =>
     (if (s12.1 54 5) = (-9) then (
      k16)
     else (
      (if (s12.1 54 5) ≤ a3 then (
       k14 s12)
      else (
       k16))))))))
  else (
   some ((), s6))))) (fun k7 =>
 jn (
   nm (sw_setC st 54 6 a4) (fun (s25 : sw_St) =>
   nm (sw_setC s25 54 7 x5) (fun (s26 : sw_St) =>
   k7 s26))) (fun k23 =>
  (if (st.1 54 6) < a4 then (
   k23)
  else (
   (if a4 = (st.1 54 6) then (
    (if (st.1 54 7) ≤ x5 then (
     k7 st)
    else (
     k23)))
   else (
    k7 st)))))))))
set_option maxHeartbeats 4000000 in
set_option maxRecDepth 100000 in
theorem c_X1_weigh (F : Nat) (a2 : Int32) (a3 : Int32) (a4 : Int32) (st : sw_St) {st1 : sw_St} (h : j_X1_weigh F a2 a3 a4 st = some ((), st1)) : sw_CV yX1_weigh (.code yX1_weigh cX1_weigh 6 none) 2 (fun g => [.ref (g.1 54), .ref (g.1 15), .int a2, .int a3, .int a4]) st  st1 := by
  refine sw_entV RX1 (fun g => [(0, .ref (g.1 54)), (1, .ref (g.1 15)), (2, .int a2), (3, .int a3), (4, .int a4)]) (by decide) rfl (fun _ => Nat.le_of_ble_eq_true rfl) (fun _ => rfl) ?_
  intro p l e s m args below meth c g X hr hlk
  unfold j_X1_weigh at h
  refine sw_iload_n X 2 rfl rfl dX1_weigh_0 ?_
  obtain ⟨r2, c1, h⟩ := bo_E h
  refine sw_callSI X (As := (fun g => [.int a2])) ws_J6_bitCount_0f7a4 (by omega) (c_J6_bitCount_0f7a4 F a2 st c1) rfl rfl (Nat.le_of_ble_eq_true rfl) wm_X1_67 dX1_weigh_1 ?_
  refine sw_aload_n X 1 rfl rfl dX1_weigh_4 ?_
  refine sw_getI X sw_cl4 (show sw_kd 15 = 4 from rfl) (k := 11) rfl (by decide) wf_X1_42 dX1_weigh_5 ?_
  obtain ⟨r4, c3, h⟩ := bo_E h
  refine sw_callSI X (As := (fun g => [.int (st.1 15 11)])) ws_J6_bitCount_0f7a4 (by omega) (c_J6_bitCount_0f7a4 F (st.1 15 11) st c3) rfl rfl (Nat.le_of_ble_eq_true rfl) wm_X1_67 dX1_weigh_8 ?_
  refine sw_isub X dX1_weigh_11 ?_
  refine sw_topi (fun x5 ex5 => ?_)
  have h := nm_E h ex5
  refine sw_istore X [(5, .int x5), (0, .ref (g.1 54)), (1, .ref (g.1 15)), (2, .int a2), (3, .int a3), (4, .int a4)] (by decide) rfl dX1_weigh_12 ?_
  refine sw_iload X 5 rfl dX1_weigh_14 ?_
  refine sw_aload_n X 1 rfl rfl dX1_weigh_16 ?_
  refine sw_getI X sw_cl1 (show sw_kd 54 = 1 from rfl) (k := 6) rfl (by decide) wf_X1_31 dX1_weigh_17 ?_
  refine jn1_E (fun (s6 : sw_St) => sw_V p l e 2 s m args below meth c g (sw_A g s.heap.size) (sw_QV below g args s  st1) 6 53 [(0, .ref (g.1 54)), (1, .ref (g.1 15)), (3, .int a3), (4, .int a4)] [] s6) h (fun s6 h => ?_) (fun k7 J8 h => ?_)
  · refine sw_aload_n X 1 rfl rfl dX1_weigh_53 ?_
    refine sw_iload X 3 rfl dX1_weigh_54 ?_
    obtain ⟨r10, c9, h⟩ := bo_E h
    refine sw_callVI X (o := 15) (As := (fun g => [.int a4])) sw_cl4 (show sw_kd 15 = 4 from rfl) ws_X4_clockAfter (by omega) (c_X4_clockAfter F (show sw_kd 15 = 4 from rfl) a4 s6 c9) rfl rfl (Nat.le_of_ble_eq_true rfl) wm_X1_72 dX1_weigh_56 ?_
    refine sw_aload_n X 0 rfl rfl dX1_weigh_59 ?_
    refine sw_getI X sw_cl1 (show sw_kd 54 = 1 from rfl) (k := 1) rfl (by decide) wf_X1_15 dX1_weigh_60 ?_
    refine sw_icmp_eq X 67 (by decide) dX1_weigh_63 (fun q11 => ?_) (fun q11 => ?_)
    · have h := ite_T h q11
      refine sw_aload_n X 0 rfl rfl dX1_weigh_67 ?_
      refine sw_dup X rfl dX1_weigh_68 ?_
      refine sw_getI X sw_cl1 (show sw_kd 54 = 1 from rfl) (k := 4) rfl (by decide) wf_X1_25 dX1_weigh_69 ?_
      refine sw_iconst X (v := 1) (by decide) dX1_weigh_72 ?_
      refine sw_iadd X dX1_weigh_73 ?_
      refine sw_putI X sw_cl1 (show sw_kd 54 = 1 from rfl) (k := 4) rfl (by decide) rfl rfl wf_X1_25 dX1_weigh_74 (fun s12 es12 => ?_)
      have h := nm_E h es12
      refine sw_aload_n X 0 rfl rfl dX1_weigh_77 ?_
      refine sw_getI X sw_cl1 (show sw_kd 54 = 1 from rfl) (k := 5) rfl (by decide) wf_X1_28 dX1_weigh_78 ?_
      refine sw_bipush X (v := (-9)) (by decide) dX1_weigh_81 ?_
      refine jn1_E (fun (s13 : sw_St) => sw_V p l e 2 s m args below meth c g (sw_A g s.heap.size) (sw_QV below g args s  st1) 6 116 [] [] s13) h (fun s13 h => ?_) (fun k14 J15 h => ?_)
      · exact sw_vret X hr hlk dX1_weigh_116 h
      · refine jn0_E (sw_V p l e 2 s m args below meth c g (sw_A g s.heap.size) (sw_QV below g args s  st1) 6 94 [(0, .ref (g.1 54)), (3, .int a3)] [] s12) h (fun h => ?_) (fun k16 J17 h => ?_)
        · refine sw_aload_n X 0 rfl rfl dX1_weigh_94 ?_
          refine sw_iload_n X 1 rfl rfl dX1_weigh_95 ?_
          refine sw_putI X sw_cl1 (show sw_kd 54 = 1 from rfl) (k := 5) rfl (by decide) rfl rfl wf_X1_28 dX1_weigh_96 (fun s18 es18 => ?_)
          have h := nm_E h es18
          refine sw_aload_n X 0 rfl rfl dX1_weigh_99 ?_
          refine sw_getR X sw_cl1 (show sw_kd 54 = 1 from rfl) (k := 2) rfl (by decide) (o1 := 55) rfl wf_X1_18 dX1_weigh_100 ?_
          refine sw_iconst X (v := 0) (by decide) dX1_weigh_103 ?_
          refine sw_aload_n X 0 rfl rfl dX1_weigh_104 ?_
          refine sw_getR X sw_cl1 (show sw_kd 54 = 1 from rfl) (k := 3) rfl (by decide) (o1 := 56) rfl wf_X1_22 dX1_weigh_105 ?_
          refine sw_iconst X (v := 0) (by decide) dX1_weigh_108 ?_
          refine sw_aload_n X 0 rfl rfl dX1_weigh_109 ?_
          refine sw_getI X sw_cl1 (show sw_kd 54 = 1 from rfl) (k := 0) rfl (by decide) wf_X1_9 dX1_weigh_110 ?_
          obtain ⟨q20, h⟩ := grd_E h
          refine sw_copy X (show sw_kd 55 = 8 from rfl) (n0 := 5) rfl (show sw_kd 56 = 8 from rfl) (n1 := 5) rfl q20.1 q20.2.1 q20.2.2.1 q20.2.2.2.1 q20.2.2.2.2 wm_X1_75 ws_copy.1 ws_copy.2.1 ws_copy.2.2 (by omega) (Nat.le_of_ble_eq_true rfl) dX1_weigh_113 (fun s19 es19 => ?_)
          have h := nm_E h es19
          refine sw_sub [] rfl ?_
          exact J15 _ h
        · refine sw_icmp_eq X 94 (by decide) dX1_weigh_83 (fun q21 => ?_) (fun q21 => ?_)
          · have h := ite_T h q21
            refine sw_sub [0, 2] rfl ?_
            exact J17  h
          · have h := ite_F h q21
            refine sw_iload_n X 2 rfl rfl dX1_weigh_86 ?_
            refine sw_aload_n X 0 rfl rfl dX1_weigh_87 ?_
            refine sw_getI X sw_cl1 (show sw_kd 54 = 1 from rfl) (k := 5) rfl (by decide) wf_X1_28 dX1_weigh_88 ?_
            refine sw_icmp_ge X 116 (by decide) dX1_weigh_91 (fun q22 => ?_) (fun q22 => ?_)
            · have h := ite_T h q22
              refine sw_sub [] rfl ?_
              exact J15 _ h
            · have h := ite_F h q22
              refine sw_sub [0, 2] rfl ?_
              exact J17  h
    · have h := ite_F h q11
      exact sw_vret X hr hlk dX1_weigh_66 h
  · refine jn0_E (sw_V p l e 2 s m args below meth c g (sw_A g s.heap.size) (sw_QV below g args s  st1) 6 41 [(0, .ref (g.1 54)), (1, .ref (g.1 15)), (3, .int a3), (4, .int a4), (5, .int x5)] [] st) h (fun h => ?_) (fun k23 J24 h => ?_)
    · refine sw_aload_n X 0 rfl rfl dX1_weigh_41 ?_
      refine sw_iload X 3 rfl dX1_weigh_42 ?_
      refine sw_putI X sw_cl1 (show sw_kd 54 = 1 from rfl) (k := 6) rfl (by decide) rfl rfl wf_X1_31 dX1_weigh_44 (fun s25 es25 => ?_)
      have h := nm_E h es25
      refine sw_aload_n X 0 rfl rfl dX1_weigh_47 ?_
      refine sw_iload X 4 rfl dX1_weigh_48 ?_
      refine sw_putI X sw_cl1 (show sw_kd 54 = 1 from rfl) (k := 7) rfl (by decide) rfl rfl wf_X1_34 dX1_weigh_50 (fun s26 es26 => ?_)
      have h := nm_E h es26
      refine sw_sub [0, 1, 2, 3] rfl ?_
      exact J8 _ h
    · refine sw_icmp_gt X 41 (by decide) dX1_weigh_20 (fun q27 => ?_) (fun q27 => ?_)
      · have h := ite_T h q27
        refine sw_sub [1, 2, 4, 5, 0] rfl ?_
        exact J24  h
      · have h := ite_F h q27
        refine sw_iload X 5 rfl dX1_weigh_23 ?_
        refine sw_aload_n X 1 rfl rfl dX1_weigh_25 ?_
        refine sw_getI X sw_cl1 (show sw_kd 54 = 1 from rfl) (k := 6) rfl (by decide) wf_X1_31 dX1_weigh_26 ?_
        refine sw_icmp_ne X 53 (by decide) dX1_weigh_29 (fun q28 => ?_) (fun q28 => ?_)
        · have h := ite_F h q28
          refine sw_sub [1, 2, 4, 5] rfl ?_
          exact J8 _ h
        · have h := ite_T h q28
          refine sw_iload X 0 rfl dX1_weigh_32 ?_
          refine sw_aload_n X 1 rfl rfl dX1_weigh_34 ?_
          refine sw_getI X sw_cl1 (show sw_kd 54 = 1 from rfl) (k := 7) rfl (by decide) wf_X1_34 dX1_weigh_35 ?_
          refine sw_icmp_ge X 53 (by decide) dX1_weigh_38 (fun q29 => ?_) (fun q29 => ?_)
          · have h := ite_T h q29
            refine sw_sub [1, 2, 4, 5] rfl ?_
            exact J8 _ h
          · have h := ite_F h q29
            refine sw_sub [1, 2, 4, 5, 0] rfl ?_
            exact J24  h
theorem dX1_letIn_0 : decode cX1_letIn 0 = .ok (.iload_n 2, 1) := by decide +kernel
theorem dX1_letIn_1 : decode cX1_letIn 1 = .ok (.aload_n 0, 1) := by decide +kernel
theorem dX1_letIn_2 : decode cX1_letIn 2 = .ok (.getfield 9, 3) := by decide +kernel
theorem dX1_letIn_5 : decode cX1_letIn 5 = .ok (.if_icmp .ge 8, 3) := by decide +kernel
theorem dX1_letIn_8 : decode cX1_letIn 8 = .ok (.iload_n 2, 1) := by decide +kernel
theorem dX1_letIn_9 : decode cX1_letIn 9 = .ok (.iconst 5, 1) := by decide +kernel
theorem dX1_letIn_10 : decode cX1_letIn 10 = .ok (.if_icmp .lt 15, 3) := by decide +kernel
theorem dX1_letIn_13 : decode cX1_letIn 13 = .ok (.aload_n 0, 1) := by decide +kernel
theorem dX1_letIn_14 : decode cX1_letIn 14 = .ok (.aload_n 1, 1) := by decide +kernel
theorem dX1_letIn_15 : decode cX1_letIn 15 = .ok (.iload 4, 2) := by decide +kernel
theorem dX1_letIn_17 : decode cX1_letIn 17 = .ok (.iload 5, 2) := by decide +kernel
theorem dX1_letIn_19 : decode cX1_letIn 19 = .ok (.iload 6, 2) := by decide +kernel
theorem dX1_letIn_21 : decode cX1_letIn 21 = .ok (.invokevirtual 49, 3) := by decide +kernel
theorem dX1_letIn_24 : decode cX1_letIn 24 = .ok (.return_, 1) := by decide +kernel
theorem dX1_letIn_25 : decode cX1_letIn 25 = .ok (.aload_n 0, 1) := by decide +kernel
theorem dX1_letIn_26 : decode cX1_letIn 26 = .ok (.getfield 18, 3) := by decide +kernel
theorem dX1_letIn_29 : decode cX1_letIn 29 = .ok (.iload_n 2, 1) := by decide +kernel
theorem dX1_letIn_30 : decode cX1_letIn 30 = .ok (.bipush (-9), 2) := by decide +kernel
theorem dX1_letIn_32 : decode cX1_letIn 32 = .ok (.iastore, 1) := by decide +kernel
theorem dX1_letIn_33 : decode cX1_letIn 33 = .ok (.aload_n 0, 1) := by decide +kernel
theorem dX1_letIn_34 : decode cX1_letIn 34 = .ok (.aload_n 1, 1) := by decide +kernel
theorem dX1_letIn_35 : decode cX1_letIn 35 = .ok (.iload_n 2, 1) := by decide +kernel
theorem dX1_letIn_36 : decode cX1_letIn 36 = .ok (.iconst 1, 1) := by decide +kernel
theorem dX1_letIn_37 : decode cX1_letIn 37 = .ok (.iadd, 1) := by decide +kernel
theorem dX1_letIn_38 : decode cX1_letIn 38 = .ok (.aload_n 1, 1) := by decide +kernel
theorem dX1_letIn_39 : decode cX1_letIn 39 = .ok (.iload_n 3, 1) := by decide +kernel
theorem dX1_letIn_40 : decode cX1_letIn 40 = .ok (.invokevirtual 53, 3) := by decide +kernel
theorem dX1_letIn_43 : decode cX1_letIn 43 = .ok (.iload 4, 2) := by decide +kernel
theorem dX1_letIn_45 : decode cX1_letIn 45 = .ok (.iload 5, 2) := by decide +kernel
theorem dX1_letIn_47 : decode cX1_letIn 47 = .ok (.iload 6, 2) := by decide +kernel
theorem dX1_letIn_49 : decode cX1_letIn 49 = .ok (.iload_n 3, 1) := by decide +kernel
theorem dX1_letIn_50 : decode cX1_letIn 50 = .ok (.ifCond .le 7, 3) := by decide +kernel
theorem dX1_letIn_53 : decode cX1_letIn 53 = .ok (.iconst 1, 1) := by decide +kernel
theorem dX1_letIn_54 : decode cX1_letIn 54 = .ok (.goto 4, 3) := by decide +kernel
theorem dX1_letIn_57 : decode cX1_letIn 57 = .ok (.iconst 0, 1) := by decide +kernel
theorem dX1_letIn_58 : decode cX1_letIn 58 = .ok (.iadd, 1) := by decide +kernel
theorem dX1_letIn_59 : decode cX1_letIn 59 = .ok (.invokestatic 45, 3) := by decide +kernel
theorem dX1_letIn_62 : decode cX1_letIn 62 = .ok (.iconst 0, 1) := by decide +kernel
theorem dX1_letIn_63 : decode cX1_letIn 63 = .ok (.istore 7, 2) := by decide +kernel
theorem dX1_letIn_65 : decode cX1_letIn 65 = .ok (.iload 7, 2) := by decide +kernel
theorem dX1_letIn_67 : decode cX1_letIn 67 = .ok (.aload_n 1, 1) := by decide +kernel
theorem dX1_letIn_68 : decode cX1_letIn 68 = .ok (.getfield 57, 3) := by decide +kernel
theorem dX1_letIn_71 : decode cX1_letIn 71 = .ok (.if_icmp .ge 86, 3) := by decide +kernel
theorem dX1_letIn_74 : decode cX1_letIn 74 = .ok (.iload 4, 2) := by decide +kernel
theorem dX1_letIn_76 : decode cX1_letIn 76 = .ok (.iload 7, 2) := by decide +kernel
theorem dX1_letIn_78 : decode cX1_letIn 78 = .ok (.ishr, 1) := by decide +kernel
theorem dX1_letIn_79 : decode cX1_letIn 79 = .ok (.iconst 1, 1) := by decide +kernel
theorem dX1_letIn_80 : decode cX1_letIn 80 = .ok (.iand, 1) := by decide +kernel
theorem dX1_letIn_81 : decode cX1_letIn 81 = .ok (.ifCond .ne 70, 3) := by decide +kernel
theorem dX1_letIn_84 : decode cX1_letIn 84 = .ok (.aload_n 0, 1) := by decide +kernel
theorem dX1_letIn_85 : decode cX1_letIn 85 = .ok (.getfield 18, 3) := by decide +kernel
theorem dX1_letIn_88 : decode cX1_letIn 88 = .ok (.iload_n 2, 1) := by decide +kernel
theorem dX1_letIn_89 : decode cX1_letIn 89 = .ok (.iload 7, 2) := by decide +kernel
theorem dX1_letIn_91 : decode cX1_letIn 91 = .ok (.iastore, 1) := by decide +kernel
theorem dX1_letIn_92 : decode cX1_letIn 92 = .ok (.aload_n 1, 1) := by decide +kernel
theorem dX1_letIn_93 : decode cX1_letIn 93 = .ok (.iload 7, 2) := by decide +kernel
theorem dX1_letIn_95 : decode cX1_letIn 95 = .ok (.iload_n 3, 1) := by decide +kernel
theorem dX1_letIn_96 : decode cX1_letIn 96 = .ok (.iload 4, 2) := by decide +kernel
theorem dX1_letIn_98 : decode cX1_letIn 98 = .ok (.invokevirtual 60, 3) := by decide +kernel
theorem dX1_letIn_101 : decode cX1_letIn 101 = .ok (.istore 8, 2) := by decide +kernel
theorem dX1_letIn_103 : decode cX1_letIn 103 = .ok (.iload 6, 2) := by decide +kernel
theorem dX1_letIn_105 : decode cX1_letIn 105 = .ok (.iload 8, 2) := by decide +kernel
theorem dX1_letIn_107 : decode cX1_letIn 107 = .ok (.ifCond .le 7, 3) := by decide +kernel
theorem dX1_letIn_110 : decode cX1_letIn 110 = .ok (.iconst 1, 1) := by decide +kernel
theorem dX1_letIn_111 : decode cX1_letIn 111 = .ok (.goto 4, 3) := by decide +kernel
theorem dX1_letIn_114 : decode cX1_letIn 114 = .ok (.iconst 0, 1) := by decide +kernel
theorem dX1_letIn_115 : decode cX1_letIn 115 = .ok (.iadd, 1) := by decide +kernel
theorem dX1_letIn_116 : decode cX1_letIn 116 = .ok (.istore 9, 2) := by decide +kernel
theorem dX1_letIn_118 : decode cX1_letIn 118 = .ok (.aload_n 0, 1) := by decide +kernel
theorem dX1_letIn_119 : decode cX1_letIn 119 = .ok (.aload_n 1, 1) := by decide +kernel
theorem dX1_letIn_120 : decode cX1_letIn 120 = .ok (.iload_n 2, 1) := by decide +kernel
theorem dX1_letIn_121 : decode cX1_letIn 121 = .ok (.iconst 1, 1) := by decide +kernel
theorem dX1_letIn_122 : decode cX1_letIn 122 = .ok (.iadd, 1) := by decide +kernel
theorem dX1_letIn_123 : decode cX1_letIn 123 = .ok (.aload_n 1, 1) := by decide +kernel
theorem dX1_letIn_124 : decode cX1_letIn 124 = .ok (.iload 8, 2) := by decide +kernel
theorem dX1_letIn_126 : decode cX1_letIn 126 = .ok (.invokevirtual 53, 3) := by decide +kernel
theorem dX1_letIn_129 : decode cX1_letIn 129 = .ok (.iload 4, 2) := by decide +kernel
theorem dX1_letIn_131 : decode cX1_letIn 131 = .ok (.iconst 1, 1) := by decide +kernel
theorem dX1_letIn_132 : decode cX1_letIn 132 = .ok (.iload 7, 2) := by decide +kernel
theorem dX1_letIn_134 : decode cX1_letIn 134 = .ok (.ishl, 1) := by decide +kernel
theorem dX1_letIn_135 : decode cX1_letIn 135 = .ok (.ior, 1) := by decide +kernel
theorem dX1_letIn_136 : decode cX1_letIn 136 = .ok (.iload 5, 2) := by decide +kernel
theorem dX1_letIn_138 : decode cX1_letIn 138 = .ok (.aload_n 1, 1) := by decide +kernel
theorem dX1_letIn_139 : decode cX1_letIn 139 = .ok (.getfield 64, 3) := by decide +kernel
theorem dX1_letIn_142 : decode cX1_letIn 142 = .ok (.iload 7, 2) := by decide +kernel
theorem dX1_letIn_144 : decode cX1_letIn 144 = .ok (.iaload, 1) := by decide +kernel
theorem dX1_letIn_145 : decode cX1_letIn 145 = .ok (.iadd, 1) := by decide +kernel
theorem dX1_letIn_146 : decode cX1_letIn 146 = .ok (.iload 9, 2) := by decide +kernel
theorem dX1_letIn_148 : decode cX1_letIn 148 = .ok (.invokestatic 45, 3) := by decide +kernel
theorem dX1_letIn_151 : decode cX1_letIn 151 = .ok (.iinc 7 1, 3) := by decide +kernel
theorem dX1_letIn_154 : decode cX1_letIn 154 = .ok (.goto (-89), 3) := by decide +kernel
theorem dX1_letIn_157 : decode cX1_letIn 157 = .ok (.return_, 1) := by decide +kernel
def j_X1_letIn (F : Nat) : Nat → Int32 → Int32 → Int32 → Int32 → Int32 → sw_St → Option (Unit × sw_St)
  | 0, _, _, _, _, _, _ => none
  | n + 1, a3, a4, a5, a6, a7, st =>
  jn (
    bd (j_X1_weigh F a5 a6 a7 st) (fun (_ : Unit) (s4 : sw_St) =>
    some ((), s4))) (fun k1 =>
   (if (st.1 54 0) ≤ a3 then (
    k1)
   else (
    (if a3 < 5 then (
     bnd a3 5 (
     nm (sw_setC st 55 (a3 : Int32).toNatClampNeg (-9)) (fun (s9 : sw_St) =>
     bo (j_X4_woundNext F 15 a4 s9) (fun (r11 : Int32) =>
     jn (fun (x12 : Int32) => 
       bd (j_X1_letIn F n (a3 + 1) r11 a5 a6 (a7 + x12) s9) (fun (_ : Unit) (s16 : sw_St) =>
       lz2 (fun f19 (x17 : Int32) (s18 : sw_St) =>
        (if (s18.1 15 0) ≤ x17 then (
         some ((), s18))
        else (
         jn (fun (s22 : sw_St) => 
           nm (x17 + 1) (fun (x25 : Int32) =>
           f19 x25 s22)) (fun k23 =>
          (if ((a5 >>> (x17 &&& 31)) &&& 1) = 0 then (
           bnd a3 5 (
           nm (sw_setC s18 55 (a3 : Int32).toNatClampNeg x17) (fun (s28 : sw_St) =>
           bo (j_X4_woundBy F 15 x17 a4 a5 s28) (fun (r30 : Int32) =>
           jn (fun (x31 : Int32) => 
             nm (a7 + x31) (fun (x34 : Int32) =>
             bo (j_X4_woundNext F 15 r30 s28) (fun (r36 : Int32) =>
             bnd x17 6 (
             bd (j_X1_letIn F n (a3 + 1) r36 (a5 ||| (1 <<< (x17 &&& 31))) (a6 + (s28.1 19 (x17 : Int32).toNatClampNeg)) x34 s28) (fun (_ : Unit) (s39 : sw_St) =>
             k23 s39))))) (fun k32 =>
            (if r30 ≤ 0 then (
             k32 0)
            else (
             k32 1)))))))
          else (
           k23 s18)))))) F 0 s16)) (fun k13 =>
      (if a4 ≤ 0 then (
       k13 0)
      else (
       k13 1)))))))
    else (
     k1)))))
set_option maxHeartbeats 4000000 in
set_option maxRecDepth 100000 in
theorem c_X1_letIn (F : Nat) : ∀ (n : Nat) (a3 : Int32) (a4 : Int32) (a5 : Int32) (a6 : Int32) (a7 : Int32) (st : sw_St) (st1 : sw_St), j_X1_letIn F n a3 a4 a5 a6 a7 st = some ((), st1) → sw_CV yX1_letIn (.code yX1_letIn cX1_letIn 10 none) (5 + n) (fun g => [.ref (g.1 54), .ref (g.1 15), .int a3, .int a4, .int a5, .int a6, .int a7]) st  st1 := by
  intro n
  induction n with
  | zero => intro a3 a4 a5 a6 a7 st st1 h; cases h
  | succ n ihR =>
  intro a3 a4 a5 a6 a7 st st1 h
  refine sw_entV RX1 (fun g => [(0, .ref (g.1 54)), (1, .ref (g.1 15)), (2, .int a3), (3, .int a4), (4, .int a5), (5, .int a6), (6, .int a7)]) (by decide) rfl (fun _ => Nat.le_of_ble_eq_true rfl) (fun _ => rfl) ?_
  intro p l e s m args below meth c g X hr hlk
  rw [j_X1_letIn] at h
  refine sw_iload_n X 2 rfl rfl dX1_letIn_0 ?_
  refine sw_aload_n X 0 rfl rfl dX1_letIn_1 ?_
  refine sw_getI X sw_cl1 (show sw_kd 54 = 1 from rfl) (k := 0) rfl (by decide) wf_X1_9 dX1_letIn_2 ?_
  refine jn0_E (sw_V p l e (5 + n + 1) s m args below meth c g (sw_A g s.heap.size) (sw_QV below g args s  st1) 10 13 [(0, .ref (g.1 54)), (1, .ref (g.1 15)), (4, .int a5), (5, .int a6), (6, .int a7)] [] st) h (fun h => ?_) (fun k1 J2 h => ?_)
  · refine sw_aload_n X 0 rfl rfl dX1_letIn_13 ?_
    refine sw_aload_n X 1 rfl rfl dX1_letIn_14 ?_
    refine sw_iload X 2 rfl dX1_letIn_15 ?_
    refine sw_iload X 3 rfl dX1_letIn_17 ?_
    refine sw_iload X 4 rfl dX1_letIn_19 ?_
    obtain ⟨u5, s4, c3, h⟩ := bd_E h
    refine sw_callVV X (o := 54) (As := (fun g => [.ref (g.1 15), .int a5, .int a6, .int a7])) sw_cl1 (show sw_kd 54 = 1 from rfl) ws_X1_weigh (by omega) (c_X1_weigh F a5 a6 a7 st c3) rfl rfl (Nat.le_of_ble_eq_true rfl) wm_X1_49 dX1_letIn_21 ?_
    exact sw_vret X hr hlk dX1_letIn_24 h
  · refine sw_icmp_ge X 13 (by decide) dX1_letIn_5 (fun q6 => ?_) (fun q6 => ?_)
    · have h := ite_T h q6
      refine sw_sub [0, 1, 4, 5, 6] rfl ?_
      exact J2  h
    · have h := ite_F h q6
      refine sw_iload_n X 2 rfl rfl dX1_letIn_8 ?_
      refine sw_iconst X (v := 5) (by decide) dX1_letIn_9 ?_
      refine sw_icmp_lt X 25 (by decide) dX1_letIn_10 (fun q7 => ?_) (fun q7 => ?_)
      · have h := ite_T h q7
        refine sw_aload_n X 0 rfl rfl dX1_letIn_25 ?_
        refine sw_getR X sw_cl1 (show sw_kd 54 = 1 from rfl) (k := 2) rfl (by decide) (o1 := 55) rfl wf_X1_18 dX1_letIn_26 ?_
        refine sw_iload_n X 2 rfl rfl dX1_letIn_29 ?_
        refine sw_bipush X (v := (-9)) (by decide) dX1_letIn_30 ?_
        obtain ⟨q8, h⟩ := bnd_E h
        refine sw_iast X (show sw_kd 55 = 8 from rfl) (n := 5) rfl q8 dX1_letIn_32 (fun s9 es9 => ?_)
        have h := nm_E h es9
        refine sw_aload_n X 0 rfl rfl dX1_letIn_33 ?_
        refine sw_aload_n X 1 rfl rfl dX1_letIn_34 ?_
        refine sw_iload_n X 2 rfl rfl dX1_letIn_35 ?_
        refine sw_iconst X (v := 1) (by decide) dX1_letIn_36 ?_
        refine sw_iadd X dX1_letIn_37 ?_
        refine sw_aload_n X 1 rfl rfl dX1_letIn_38 ?_
        refine sw_iload_n X 3 rfl rfl dX1_letIn_39 ?_
        obtain ⟨r11, c10, h⟩ := bo_E h
        refine sw_callVI X (o := 15) (As := (fun g => [.int a4])) sw_cl4 (show sw_kd 15 = 4 from rfl) ws_X4_woundNext (by omega) (c_X4_woundNext F (show sw_kd 15 = 4 from rfl) a4 s9 c10) rfl rfl (Nat.le_of_ble_eq_true rfl) wm_X1_53 dX1_letIn_40 ?_
        refine sw_iload X 4 rfl dX1_letIn_43 ?_
        refine sw_iload X 5 rfl dX1_letIn_45 ?_
        refine sw_iload X 6 rfl dX1_letIn_47 ?_
        refine sw_iload_n X 3 rfl rfl dX1_letIn_49 ?_
        refine jn1_E (fun (x12 : Int32) => sw_V p l e (5 + n + 1) s m args below meth c g (sw_A g s.heap.size) (sw_QV below g args s  st1) 10 58 [(0, .ref (g.1 54)), (1, .ref (g.1 15)), (2, .int a3), (3, .int a4), (4, .int a5), (5, .int a6), (6, .int a7)] [.int x12, .int a7, .int a6, .int a5, .int r11, .int (a3 + 1), .ref (g.1 15), .ref (g.1 54)] s9) h (fun x12 h => ?_) (fun k13 J14 h => ?_)
        · refine sw_iadd X dX1_letIn_58 ?_
          obtain ⟨u42, s16, c15, h⟩ := bd_E h
          refine sw_callSV X (As := (fun g => [.ref (g.1 54), .ref (g.1 15), .int (a3 + 1), .int r11, .int a5, .int a6, .int (a7 + x12)])) ws_X1_letIn (by omega) (ihR (a3 + 1) r11 a5 a6 (a7 + x12) s9 _ c15) rfl rfl (Nat.le_of_ble_eq_true rfl) wm_X1_45 dX1_letIn_59 ?_
          refine sw_iconst X (v := 0) (by decide) dX1_letIn_62 ?_
          refine sw_istore X [(7, .int 0), (0, .ref (g.1 54)), (1, .ref (g.1 15)), (2, .int a3), (3, .int a4), (4, .int a5), (5, .int a6), (6, .int a7)] (by decide) rfl dX1_letIn_63 ?_
          refine sw_sub [1, 2, 3, 4, 5, 6, 7, 0] rfl ?_
          refine lz2_E (fun (x17 : Int32) (s18 : sw_St) => sw_V p l e (5 + n + 1) s m args below meth c g (sw_A g s.heap.size) (sw_QV below g args s  st1) 10 65 [(0, .ref (g.1 54)), (1, .ref (g.1 15)), (2, .int a3), (3, .int a4), (4, .int a5), (5, .int a6), (6, .int a7), (7, .int x17)] [] s18) h (fun f19 ih20 x17 s18 h => ?_)
          refine sw_iload X 7 rfl dX1_letIn_65 ?_
          refine sw_aload_n X 1 rfl rfl dX1_letIn_67 ?_
          refine sw_getI X sw_cl4 (show sw_kd 15 = 4 from rfl) (k := 0) rfl (by decide) wf_X1_57 dX1_letIn_68 ?_
          refine sw_icmp_ge X 157 (by decide) dX1_letIn_71 (fun q21 => ?_) (fun q21 => ?_)
          · have h := ite_T h q21
            exact sw_vret X hr hlk dX1_letIn_157 h
          · have h := ite_F h q21
            refine sw_iload X 4 rfl dX1_letIn_74 ?_
            refine sw_iload X 7 rfl dX1_letIn_76 ?_
            refine sw_ishr X dX1_letIn_78 ?_
            refine sw_iconst X (v := 1) (by decide) dX1_letIn_79 ?_
            refine sw_iand X dX1_letIn_80 ?_
            refine jn1_E (fun (s22 : sw_St) => sw_V p l e (5 + n + 1) s m args below meth c g (sw_A g s.heap.size) (sw_QV below g args s  st1) 10 151 [(0, .ref (g.1 54)), (1, .ref (g.1 15)), (2, .int a3), (3, .int a4), (4, .int a5), (5, .int a6), (6, .int a7), (7, .int x17)] [] s22) h (fun s22 h => ?_) (fun k23 J24 h => ?_)
            · obtain ⟨x25, ex25⟩ : ∃ y : Int32, y = x17 + 1 := ⟨_, rfl⟩
              have h := nm_E h ex25
              refine sw_iinc X 7 x25 [(7, .int x25), (0, .ref (g.1 54)), (1, .ref (g.1 15)), (2, .int a3), (3, .int a4), (4, .int a5), (5, .int a6), (6, .int a7)] rfl (by rw [ex25]; rfl) (by decide) rfl dX1_letIn_151 ?_
              refine sw_goto X 65 (by decide) dX1_letIn_154 ?_
              refine sw_sub [1, 2, 3, 4, 5, 6, 7, 0] rfl ?_
              exact ih20 _ _ h
            · refine sw_if_ne X 151 (by decide) dX1_letIn_81 (fun q26 => ?_) (fun q26 => ?_)
              · have h := ite_F h q26
                exact J24 _ h
              · have h := ite_T h q26
                refine sw_aload_n X 0 rfl rfl dX1_letIn_84 ?_
                refine sw_getR X sw_cl1 (show sw_kd 54 = 1 from rfl) (k := 2) rfl (by decide) (o1 := 55) rfl wf_X1_18 dX1_letIn_85 ?_
                refine sw_iload_n X 2 rfl rfl dX1_letIn_88 ?_
                refine sw_iload X 7 rfl dX1_letIn_89 ?_
                obtain ⟨q27, h⟩ := bnd_E h
                refine sw_iast X (show sw_kd 55 = 8 from rfl) (n := 5) rfl q27 dX1_letIn_91 (fun s28 es28 => ?_)
                have h := nm_E h es28
                refine sw_aload_n X 1 rfl rfl dX1_letIn_92 ?_
                refine sw_iload X 7 rfl dX1_letIn_93 ?_
                refine sw_iload_n X 3 rfl rfl dX1_letIn_95 ?_
                refine sw_iload X 4 rfl dX1_letIn_96 ?_
                obtain ⟨r30, c29, h⟩ := bo_E h
                refine sw_callVI X (o := 15) (As := (fun g => [.int x17, .int a4, .int a5])) sw_cl4 (show sw_kd 15 = 4 from rfl) ws_X4_woundBy (by omega) (c_X4_woundBy F (show sw_kd 15 = 4 from rfl) x17 a4 a5 s28 c29) rfl rfl (Nat.le_of_ble_eq_true rfl) wm_X1_60 dX1_letIn_98 ?_
                refine sw_istore X [(8, .int r30), (0, .ref (g.1 54)), (1, .ref (g.1 15)), (2, .int a3), (3, .int a4), (4, .int a5), (5, .int a6), (6, .int a7), (7, .int x17)] (by decide) rfl dX1_letIn_101 ?_
                refine sw_iload X 7 rfl dX1_letIn_103 ?_
                refine sw_iload X 0 rfl dX1_letIn_105 ?_
                refine jn1_E (fun (x31 : Int32) => sw_V p l e (5 + n + 1) s m args below meth c g (sw_A g s.heap.size) (sw_QV below g args s  st1) 10 115 [(0, .ref (g.1 54)), (1, .ref (g.1 15)), (2, .int a3), (3, .int a4), (4, .int a5), (5, .int a6), (6, .int a7), (7, .int x17), (8, .int r30)] [.int x31, .int a7] s28) h (fun x31 h => ?_) (fun k32 J33 h => ?_)
                · refine sw_iadd X dX1_letIn_115 ?_
                  refine sw_topi (fun x34 ex34 => ?_)
                  have h := nm_E h ex34
                  refine sw_istore X [(9, .int x34), (0, .ref (g.1 54)), (1, .ref (g.1 15)), (2, .int a3), (3, .int a4), (4, .int a5), (5, .int a6), (6, .int a7), (7, .int x17), (8, .int r30)] (by decide) rfl dX1_letIn_116 ?_
                  refine sw_aload_n X 1 rfl rfl dX1_letIn_118 ?_
                  refine sw_aload_n X 2 rfl rfl dX1_letIn_119 ?_
                  refine sw_iload_n X 3 rfl rfl dX1_letIn_120 ?_
                  refine sw_iconst X (v := 1) (by decide) dX1_letIn_121 ?_
                  refine sw_iadd X dX1_letIn_122 ?_
                  refine sw_aload_n X 2 rfl rfl dX1_letIn_123 ?_
                  refine sw_iload X 9 rfl dX1_letIn_124 ?_
                  obtain ⟨r36, c35, h⟩ := bo_E h
                  refine sw_callVI X (o := 15) (As := (fun g => [.int r30])) sw_cl4 (show sw_kd 15 = 4 from rfl) ws_X4_woundNext (by omega) (c_X4_woundNext F (show sw_kd 15 = 4 from rfl) r30 s28 c35) rfl rfl (Nat.le_of_ble_eq_true rfl) wm_X1_53 dX1_letIn_126 ?_
                  refine sw_iload X 5 rfl dX1_letIn_129 ?_
                  refine sw_iconst X (v := 1) (by decide) dX1_letIn_131 ?_
                  refine sw_iload X 8 rfl dX1_letIn_132 ?_
                  refine sw_ishl X dX1_letIn_134 ?_
                  refine sw_ior X dX1_letIn_135 ?_
                  refine sw_iload X 6 rfl dX1_letIn_136 ?_
                  refine sw_aload_n X 2 rfl rfl dX1_letIn_138 ?_
                  refine sw_getR X sw_cl4 (show sw_kd 15 = 4 from rfl) (k := 4) rfl (by decide) (o1 := 19) rfl wf_X1_64 dX1_letIn_139 ?_
                  refine sw_iload X 8 rfl dX1_letIn_142 ?_
                  obtain ⟨q37, h⟩ := bnd_E h
                  refine sw_iald X (show sw_kd 19 = 8 from rfl) (n := 6) rfl q37 dX1_letIn_144 ?_
                  refine sw_iadd X dX1_letIn_145 ?_
                  refine sw_iload X 0 rfl dX1_letIn_146 ?_
                  obtain ⟨u40, s39, c38, h⟩ := bd_E h
                  refine sw_callSV X (As := (fun g => [.ref (g.1 54), .ref (g.1 15), .int (a3 + 1), .int r36, .int (a5 ||| (1 <<< (x17 &&& 31))), .int (a6 + (s28.1 19 (x17 : Int32).toNatClampNeg)), .int x34])) ws_X1_letIn (by omega) (ihR (a3 + 1) r36 (a5 ||| (1 <<< (x17 &&& 31))) (a6 + (s28.1 19 (x17 : Int32).toNatClampNeg)) x34 s28 _ c38) rfl rfl (Nat.le_of_ble_eq_true rfl) wm_X1_45 dX1_letIn_148 ?_
                  refine sw_sub [1, 2, 3, 4, 5, 6, 7, 8] rfl ?_
                  exact J24 _ h
                · refine sw_if_le X 114 (by decide) dX1_letIn_107 (fun q41 => ?_) (fun q41 => ?_)
                  · have h := ite_T h q41
                    refine sw_iconst X (v := 0) (by decide) dX1_letIn_114 ?_
                    refine sw_sub [1, 2, 3, 4, 5, 6, 7, 8, 0] rfl ?_
                    exact J33 _ h
                  · have h := ite_F h q41
                    refine sw_iconst X (v := 1) (by decide) dX1_letIn_110 ?_
                    refine sw_goto X 115 (by decide) dX1_letIn_111 ?_
                    refine sw_sub [1, 2, 3, 4, 5, 6, 7, 8, 0] rfl ?_
                    exact J33 _ h
        · refine sw_if_le X 57 (by decide) dX1_letIn_50 (fun q43 => ?_) (fun q43 => ?_)
          · have h := ite_T h q43
            refine sw_iconst X (v := 0) (by decide) dX1_letIn_57 ?_
            exact J14 _ h
          · have h := ite_F h q43
            refine sw_iconst X (v := 1) (by decide) dX1_letIn_53 ?_
            refine sw_goto X 58 (by decide) dX1_letIn_54 ?_
            exact J14 _ h
      · have h := ite_F h q7
        refine sw_sub [0, 1, 4, 5, 6] rfl ?_
        exact J2  h
theorem dX1_search_0 : decode cX1_search 0 = .ok (.aload_n 0, 1) := by decide +kernel
theorem dX1_search_1 : decode cX1_search 1 = .ok (.iload_n 2, 1) := by decide +kernel
theorem dX1_search_2 : decode cX1_search 2 = .ok (.putfield 9, 3) := by decide +kernel
theorem dX1_search_5 : decode cX1_search 5 = .ok (.aload_n 0, 1) := by decide +kernel
theorem dX1_search_6 : decode cX1_search 6 = .ok (.iload_n 3, 1) := by decide +kernel
theorem dX1_search_7 : decode cX1_search 7 = .ok (.putfield 15, 3) := by decide +kernel
theorem dX1_search_10 : decode cX1_search 10 = .ok (.aload_n 0, 1) := by decide +kernel
theorem dX1_search_11 : decode cX1_search 11 = .ok (.iconst 0, 1) := by decide +kernel
theorem dX1_search_12 : decode cX1_search 12 = .ok (.putfield 25, 3) := by decide +kernel
theorem dX1_search_15 : decode cX1_search 15 = .ok (.aload_n 0, 1) := by decide +kernel
theorem dX1_search_16 : decode cX1_search 16 = .ok (.bipush (-9), 2) := by decide +kernel
theorem dX1_search_18 : decode cX1_search 18 = .ok (.putfield 28, 3) := by decide +kernel
theorem dX1_search_21 : decode cX1_search 21 = .ok (.aload_n 0, 1) := by decide +kernel
theorem dX1_search_22 : decode cX1_search 22 = .ok (.iconst (-1), 1) := by decide +kernel
theorem dX1_search_23 : decode cX1_search 23 = .ok (.putfield 31, 3) := by decide +kernel
theorem dX1_search_26 : decode cX1_search 26 = .ok (.aload_n 0, 1) := by decide +kernel
theorem dX1_search_27 : decode cX1_search 27 = .ok (.iconst 0, 1) := by decide +kernel
theorem dX1_search_28 : decode cX1_search 28 = .ok (.putfield 34, 3) := by decide +kernel
theorem dX1_search_31 : decode cX1_search 31 = .ok (.aload_n 0, 1) := by decide +kernel
theorem dX1_search_32 : decode cX1_search 32 = .ok (.aload_n 1, 1) := by decide +kernel
theorem dX1_search_33 : decode cX1_search 33 = .ok (.iconst 0, 1) := by decide +kernel
theorem dX1_search_34 : decode cX1_search 34 = .ok (.aload_n 1, 1) := by decide +kernel
theorem dX1_search_35 : decode cX1_search 35 = .ok (.getfield 37, 3) := by decide +kernel
theorem dX1_search_38 : decode cX1_search 38 = .ok (.aload_n 1, 1) := by decide +kernel
theorem dX1_search_39 : decode cX1_search 39 = .ok (.getfield 42, 3) := by decide +kernel
theorem dX1_search_42 : decode cX1_search 42 = .ok (.iconst 0, 1) := by decide +kernel
theorem dX1_search_43 : decode cX1_search 43 = .ok (.iconst 0, 1) := by decide +kernel
theorem dX1_search_44 : decode cX1_search 44 = .ok (.invokestatic 45, 3) := by decide +kernel
theorem dX1_search_47 : decode cX1_search 47 = .ok (.return_, 1) := by decide +kernel
def j_X1_search (F : Nat) (a2 : Int32) (a3 : Int32) (st : sw_St) : Option (Unit × sw_St) :=
nm (sw_setC st 54 0 a2) (fun (s1 : sw_St) =>
nm (sw_setC s1 54 1 a3) (fun (s2 : sw_St) =>
nm (sw_setC s2 54 4 0) (fun (s3 : sw_St) =>
nm (sw_setC s3 54 5 (-9)) (fun (s4 : sw_St) =>
nm (sw_setC s4 54 6 (-1)) (fun (s5 : sw_St) =>
nm (sw_setC s5 54 7 0) (fun (s6 : sw_St) =>
bd (j_X1_letIn F 7 0 (s6.1 15 7) (s6.1 15 11) 0 0 s6) (fun (_ : Unit) (s8 : sw_St) =>
some ((), s8))))))))
set_option maxHeartbeats 4000000 in
set_option maxRecDepth 100000 in
theorem c_X1_search (F : Nat) (a2 : Int32) (a3 : Int32) (st : sw_St) {st1 : sw_St} (h : j_X1_search F a2 a3 st = some ((), st1)) : sw_CV yX1_search (.code yX1_search cX1_search 4 none) 13 (fun g => [.ref (g.1 54), .ref (g.1 15), .int a2, .int a3]) st  st1 := by
  refine sw_entV RX1 (fun g => [(0, .ref (g.1 54)), (1, .ref (g.1 15)), (2, .int a2), (3, .int a3)]) (by decide) rfl (fun _ => Nat.le_of_ble_eq_true rfl) (fun _ => rfl) ?_
  intro p l e s m args below meth c g X hr hlk
  unfold j_X1_search at h
  refine sw_aload_n X 0 rfl rfl dX1_search_0 ?_
  refine sw_iload_n X 2 rfl rfl dX1_search_1 ?_
  refine sw_putI X sw_cl1 (show sw_kd 54 = 1 from rfl) (k := 0) rfl (by decide) rfl rfl wf_X1_9 dX1_search_2 (fun s1 es1 => ?_)
  have h := nm_E h es1
  refine sw_aload_n X 0 rfl rfl dX1_search_5 ?_
  refine sw_iload_n X 3 rfl rfl dX1_search_6 ?_
  refine sw_putI X sw_cl1 (show sw_kd 54 = 1 from rfl) (k := 1) rfl (by decide) rfl rfl wf_X1_15 dX1_search_7 (fun s2 es2 => ?_)
  have h := nm_E h es2
  refine sw_aload_n X 0 rfl rfl dX1_search_10 ?_
  refine sw_iconst X (v := 0) (by decide) dX1_search_11 ?_
  refine sw_putI X sw_cl1 (show sw_kd 54 = 1 from rfl) (k := 4) rfl (by decide) rfl rfl wf_X1_25 dX1_search_12 (fun s3 es3 => ?_)
  have h := nm_E h es3
  refine sw_aload_n X 0 rfl rfl dX1_search_15 ?_
  refine sw_bipush X (v := (-9)) (by decide) dX1_search_16 ?_
  refine sw_putI X sw_cl1 (show sw_kd 54 = 1 from rfl) (k := 5) rfl (by decide) rfl rfl wf_X1_28 dX1_search_18 (fun s4 es4 => ?_)
  have h := nm_E h es4
  refine sw_aload_n X 0 rfl rfl dX1_search_21 ?_
  refine sw_iconst X (v := (-1)) (by decide) dX1_search_22 ?_
  refine sw_putI X sw_cl1 (show sw_kd 54 = 1 from rfl) (k := 6) rfl (by decide) rfl rfl wf_X1_31 dX1_search_23 (fun s5 es5 => ?_)
  have h := nm_E h es5
  refine sw_aload_n X 0 rfl rfl dX1_search_26 ?_
  refine sw_iconst X (v := 0) (by decide) dX1_search_27 ?_
  refine sw_putI X sw_cl1 (show sw_kd 54 = 1 from rfl) (k := 7) rfl (by decide) rfl rfl wf_X1_34 dX1_search_28 (fun s6 es6 => ?_)
  have h := nm_E h es6
  refine sw_aload_n X 0 rfl rfl dX1_search_31 ?_
  refine sw_aload_n X 1 rfl rfl dX1_search_32 ?_
  refine sw_iconst X (v := 0) (by decide) dX1_search_33 ?_
  refine sw_aload_n X 1 rfl rfl dX1_search_34 ?_
  refine sw_getI X sw_cl4 (show sw_kd 15 = 4 from rfl) (k := 7) rfl (by decide) wf_X1_37 dX1_search_35 ?_
  refine sw_aload_n X 1 rfl rfl dX1_search_38 ?_
  refine sw_getI X sw_cl4 (show sw_kd 15 = 4 from rfl) (k := 11) rfl (by decide) wf_X1_42 dX1_search_39 ?_
  refine sw_iconst X (v := 0) (by decide) dX1_search_42 ?_
  refine sw_iconst X (v := 0) (by decide) dX1_search_43 ?_
  obtain ⟨u9, s8, c7, h⟩ := bd_E h
  refine sw_callSV X (As := (fun g => [.ref (g.1 54), .ref (g.1 15), .int 0, .int (s6.1 15 7), .int (s6.1 15 11), .int 0, .int 0])) ws_X1_letIn (by omega) (c_X1_letIn F 7 0 (s6.1 15 7) (s6.1 15 11) 0 0 s6 _ c7) rfl rfl (Nat.le_of_ble_eq_true rfl) wm_X1_45 dX1_search_44 ?_
  exact sw_vret X hr hlk dX1_search_47 h
theorem dX2_lineUp_0 : decode cX2_lineUp 0 = .ok (.iload_n 2, 1) := by decide +kernel
theorem dX2_lineUp_1 : decode cX2_lineUp 1 = .ok (.aload_n 0, 1) := by decide +kernel
theorem dX2_lineUp_2 : decode cX2_lineUp 2 = .ok (.getfield 18, 3) := by decide +kernel
theorem dX2_lineUp_5 : decode cX2_lineUp 5 = .ok (.if_icmp .ge 9, 3) := by decide +kernel
theorem dX2_lineUp_8 : decode cX2_lineUp 8 = .ok (.iload_n 2, 1) := by decide +kernel
theorem dX2_lineUp_9 : decode cX2_lineUp 9 = .ok (.bipush 6, 2) := by decide +kernel
theorem dX2_lineUp_11 : decode cX2_lineUp 11 = .ok (.if_icmp .lt 34, 3) := by decide +kernel
theorem dX2_lineUp_14 : decode cX2_lineUp 14 = .ok (.iload_n 3, 1) := by decide +kernel
theorem dX2_lineUp_15 : decode cX2_lineUp 15 = .ok (.aload_n 0, 1) := by decide +kernel
theorem dX2_lineUp_16 : decode cX2_lineUp 16 = .ok (.getfield 22, 3) := by decide +kernel
theorem dX2_lineUp_19 : decode cX2_lineUp 19 = .ok (.if_icmp .le 25, 3) := by decide +kernel
theorem dX2_lineUp_22 : decode cX2_lineUp 22 = .ok (.aload_n 0, 1) := by decide +kernel
theorem dX2_lineUp_23 : decode cX2_lineUp 23 = .ok (.iload_n 3, 1) := by decide +kernel
theorem dX2_lineUp_24 : decode cX2_lineUp 24 = .ok (.putfield 22, 3) := by decide +kernel
theorem dX2_lineUp_27 : decode cX2_lineUp 27 = .ok (.aload_n 0, 1) := by decide +kernel
theorem dX2_lineUp_28 : decode cX2_lineUp 28 = .ok (.getfield 9, 3) := by decide +kernel
theorem dX2_lineUp_31 : decode cX2_lineUp 31 = .ok (.iconst 0, 1) := by decide +kernel
theorem dX2_lineUp_32 : decode cX2_lineUp 32 = .ok (.aload_n 0, 1) := by decide +kernel
theorem dX2_lineUp_33 : decode cX2_lineUp 33 = .ok (.getfield 15, 3) := by decide +kernel
theorem dX2_lineUp_36 : decode cX2_lineUp 36 = .ok (.iconst 0, 1) := by decide +kernel
theorem dX2_lineUp_37 : decode cX2_lineUp 37 = .ok (.aload_n 0, 1) := by decide +kernel
theorem dX2_lineUp_38 : decode cX2_lineUp 38 = .ok (.getfield 18, 3) := by decide +kernel
theorem dX2_lineUp_41 : decode cX2_lineUp 41 = .ok (.invokestatic 47, 3) := by decide +kernel
theorem dX2_lineUp_44 : decode cX2_lineUp 44 = .ok (.return_, 1) := by decide +kernel
theorem dX2_lineUp_45 : decode cX2_lineUp 45 = .ok (.iconst 0, 1) := by decide +kernel
theorem dX2_lineUp_46 : decode cX2_lineUp 46 = .ok (.istore 5, 2) := by decide +kernel
theorem dX2_lineUp_48 : decode cX2_lineUp 48 = .ok (.iload 5, 2) := by decide +kernel
theorem dX2_lineUp_50 : decode cX2_lineUp 50 = .ok (.aload_n 1, 1) := by decide +kernel
theorem dX2_lineUp_51 : decode cX2_lineUp 51 = .ok (.getfield 53, 3) := by decide +kernel
theorem dX2_lineUp_54 : decode cX2_lineUp 54 = .ok (.if_icmp .ge 51, 3) := by decide +kernel
theorem dX2_lineUp_57 : decode cX2_lineUp 57 = .ok (.iload 4, 2) := by decide +kernel
theorem dX2_lineUp_59 : decode cX2_lineUp 59 = .ok (.iload 5, 2) := by decide +kernel
theorem dX2_lineUp_61 : decode cX2_lineUp 61 = .ok (.ishr, 1) := by decide +kernel
theorem dX2_lineUp_62 : decode cX2_lineUp 62 = .ok (.iconst 1, 1) := by decide +kernel
theorem dX2_lineUp_63 : decode cX2_lineUp 63 = .ok (.iand, 1) := by decide +kernel
theorem dX2_lineUp_64 : decode cX2_lineUp 64 = .ok (.ifCond .ne 35, 3) := by decide +kernel
theorem dX2_lineUp_67 : decode cX2_lineUp 67 = .ok (.aload_n 0, 1) := by decide +kernel
theorem dX2_lineUp_68 : decode cX2_lineUp 68 = .ok (.getfield 9, 3) := by decide +kernel
theorem dX2_lineUp_71 : decode cX2_lineUp 71 = .ok (.iload_n 2, 1) := by decide +kernel
theorem dX2_lineUp_72 : decode cX2_lineUp 72 = .ok (.iload 5, 2) := by decide +kernel
theorem dX2_lineUp_74 : decode cX2_lineUp 74 = .ok (.iastore, 1) := by decide +kernel
theorem dX2_lineUp_75 : decode cX2_lineUp 75 = .ok (.aload_n 0, 1) := by decide +kernel
theorem dX2_lineUp_76 : decode cX2_lineUp 76 = .ok (.aload_n 1, 1) := by decide +kernel
theorem dX2_lineUp_77 : decode cX2_lineUp 77 = .ok (.iload_n 2, 1) := by decide +kernel
theorem dX2_lineUp_78 : decode cX2_lineUp 78 = .ok (.iconst 1, 1) := by decide +kernel
theorem dX2_lineUp_79 : decode cX2_lineUp 79 = .ok (.iadd, 1) := by decide +kernel
theorem dX2_lineUp_80 : decode cX2_lineUp 80 = .ok (.aload_n 1, 1) := by decide +kernel
theorem dX2_lineUp_81 : decode cX2_lineUp 81 = .ok (.iload 5, 2) := by decide +kernel
theorem dX2_lineUp_83 : decode cX2_lineUp 83 = .ok (.iload_n 3, 1) := by decide +kernel
theorem dX2_lineUp_84 : decode cX2_lineUp 84 = .ok (.iload 4, 2) := by decide +kernel
theorem dX2_lineUp_86 : decode cX2_lineUp 86 = .ok (.invokevirtual 56, 3) := by decide +kernel
theorem dX2_lineUp_89 : decode cX2_lineUp 89 = .ok (.iload 4, 2) := by decide +kernel
theorem dX2_lineUp_91 : decode cX2_lineUp 91 = .ok (.iconst 1, 1) := by decide +kernel
theorem dX2_lineUp_92 : decode cX2_lineUp 92 = .ok (.iload 5, 2) := by decide +kernel
theorem dX2_lineUp_94 : decode cX2_lineUp 94 = .ok (.ishl, 1) := by decide +kernel
theorem dX2_lineUp_95 : decode cX2_lineUp 95 = .ok (.ior, 1) := by decide +kernel
theorem dX2_lineUp_96 : decode cX2_lineUp 96 = .ok (.invokestatic 43, 3) := by decide +kernel
theorem dX2_lineUp_99 : decode cX2_lineUp 99 = .ok (.iinc 5 1, 3) := by decide +kernel
theorem dX2_lineUp_102 : decode cX2_lineUp 102 = .ok (.goto (-54), 3) := by decide +kernel
theorem dX2_lineUp_105 : decode cX2_lineUp 105 = .ok (.return_, 1) := by decide +kernel
def j_X2_lineUp (F : Nat) : Nat → Int32 → Int32 → Int32 → sw_St → Option (Unit × sw_St)
  | 0, _, _, _, _ => none
  | n + 1, a3, a4, a5, st =>
  jn (
    jn (fun (s3 : sw_St) => 
      some ((), s3)) (fun k4 =>
     (if a4 ≤ (st.1 57 3) then (
      k4 st)
     else (
      nm (sw_setC st 57 3 a4) (fun (s7 : sw_St) =>
      grd ((¬ 0 < (0 : Int32)) ∧ (¬ 0 < (0 : Int32)) ∧ (¬ (s7.1 57 2) < (0 : Int32)) ∧ (0 : Int32).toNatClampNeg + ((s7.1 57 2) : Int32).toNatClampNeg ≤ 6 ∧ (0 : Int32).toNatClampNeg + ((s7.1 57 2) : Int32).toNatClampNeg ≤ 6) (
      nm (sw_setA s7 59 (va_cpy (s7.1 58) (s7.1 59) (0 : Int32).toNatClampNeg (0 : Int32).toNatClampNeg ((s7.1 57 2) : Int32).toNatClampNeg)) (fun (s8 : sw_St) =>
      k4 s8))))))) (fun k1 =>
   (if (st.1 57 2) ≤ a3 then (
    k1)
   else (
    (if a3 < 6 then (
     lz2 (fun f14 (x12 : Int32) (s13 : sw_St) =>
      (if (s13.1 15 0) ≤ x12 then (
       some ((), s13))
      else (
       jn (fun (s17 : sw_St) => 
         nm (x12 + 1) (fun (x20 : Int32) =>
         f14 x20 s17)) (fun k18 =>
        (if ((a5 >>> (x12 &&& 31)) &&& 1) = 0 then (
         bnd a3 6 (
         nm (sw_setC s13 58 (a3 : Int32).toNatClampNeg x12) (fun (s23 : sw_St) =>
         bo (j_X4_woundBy F 15 x12 a4 a5 s23) (fun (r25 : Int32) =>
         bd (j_X2_lineUp F n (a3 + 1) r25 (a5 ||| (1 <<< (x12 &&& 31))) s23) (fun (_ : Unit) (s27 : sw_St) =>
         k18 s27)))))
        else (
         k18 s13)))))) F 0 st)
    else (
     k1)))))
set_option maxHeartbeats 4000000 in
set_option maxRecDepth 100000 in
theorem c_X2_lineUp (F : Nat) : ∀ (n : Nat) (a3 : Int32) (a4 : Int32) (a5 : Int32) (st : sw_St) (st1 : sw_St), j_X2_lineUp F n a3 a4 a5 st = some ((), st1) → sw_CV yX2_lineUp (.code yX2_lineUp cX2_lineUp 6 none) (5 + n) (fun g => [.ref (g.1 57), .ref (g.1 15), .int a3, .int a4, .int a5]) st  st1 := by
  intro n
  induction n with
  | zero => intro a3 a4 a5 st st1 h; cases h
  | succ n ihR =>
  intro a3 a4 a5 st st1 h
  refine sw_entV RX2 (fun g => [(0, .ref (g.1 57)), (1, .ref (g.1 15)), (2, .int a3), (3, .int a4), (4, .int a5)]) (by decide) rfl (fun _ => Nat.le_of_ble_eq_true rfl) (fun _ => rfl) ?_
  intro p l e s m args below meth c g X hr hlk
  rw [j_X2_lineUp] at h
  refine sw_iload_n X 2 rfl rfl dX2_lineUp_0 ?_
  refine sw_aload_n X 0 rfl rfl dX2_lineUp_1 ?_
  refine sw_getI X sw_cl2 (show sw_kd 57 = 2 from rfl) (k := 2) rfl (by decide) wf_X2_18 dX2_lineUp_2 ?_
  refine jn0_E (sw_V p l e (5 + n + 1) s m args below meth c g (sw_A g s.heap.size) (sw_QV below g args s  st1) 6 14 [(0, .ref (g.1 57)), (3, .int a4)] [] st) h (fun h => ?_) (fun k1 J2 h => ?_)
  · refine sw_iload_n X 1 rfl rfl dX2_lineUp_14 ?_
    refine sw_aload_n X 0 rfl rfl dX2_lineUp_15 ?_
    refine sw_getI X sw_cl2 (show sw_kd 57 = 2 from rfl) (k := 3) rfl (by decide) wf_X2_22 dX2_lineUp_16 ?_
    refine jn1_E (fun (s3 : sw_St) => sw_V p l e (5 + n + 1) s m args below meth c g (sw_A g s.heap.size) (sw_QV below g args s  st1) 6 44 [] [] s3) h (fun s3 h => ?_) (fun k4 J5 h => ?_)
    · exact sw_vret X hr hlk dX2_lineUp_44 h
    · refine sw_icmp_le X 44 (by decide) dX2_lineUp_19 (fun q6 => ?_) (fun q6 => ?_)
      · have h := ite_T h q6
        refine sw_sub [] rfl ?_
        exact J5 _ h
      · have h := ite_F h q6
        refine sw_aload_n X 0 rfl rfl dX2_lineUp_22 ?_
        refine sw_iload_n X 1 rfl rfl dX2_lineUp_23 ?_
        refine sw_putI X sw_cl2 (show sw_kd 57 = 2 from rfl) (k := 3) rfl (by decide) rfl rfl wf_X2_22 dX2_lineUp_24 (fun s7 es7 => ?_)
        have h := nm_E h es7
        refine sw_aload_n X 0 rfl rfl dX2_lineUp_27 ?_
        refine sw_getR X sw_cl2 (show sw_kd 57 = 2 from rfl) (k := 0) rfl (by decide) (o1 := 58) rfl wf_X2_9 dX2_lineUp_28 ?_
        refine sw_iconst X (v := 0) (by decide) dX2_lineUp_31 ?_
        refine sw_aload_n X 0 rfl rfl dX2_lineUp_32 ?_
        refine sw_getR X sw_cl2 (show sw_kd 57 = 2 from rfl) (k := 1) rfl (by decide) (o1 := 59) rfl wf_X2_15 dX2_lineUp_33 ?_
        refine sw_iconst X (v := 0) (by decide) dX2_lineUp_36 ?_
        refine sw_aload_n X 0 rfl rfl dX2_lineUp_37 ?_
        refine sw_getI X sw_cl2 (show sw_kd 57 = 2 from rfl) (k := 2) rfl (by decide) wf_X2_18 dX2_lineUp_38 ?_
        obtain ⟨q9, h⟩ := grd_E h
        refine sw_copy X (show sw_kd 58 = 8 from rfl) (n0 := 6) rfl (show sw_kd 59 = 8 from rfl) (n1 := 6) rfl q9.1 q9.2.1 q9.2.2.1 q9.2.2.2.1 q9.2.2.2.2 wm_X2_47 ws_copy.1 ws_copy.2.1 ws_copy.2.2 (by omega) (Nat.le_of_ble_eq_true rfl) dX2_lineUp_41 (fun s8 es8 => ?_)
        have h := nm_E h es8
        refine sw_sub [] rfl ?_
        exact J5 _ h
  · refine sw_icmp_ge X 14 (by decide) dX2_lineUp_5 (fun q10 => ?_) (fun q10 => ?_)
    · have h := ite_T h q10
      refine sw_sub [0, 3] rfl ?_
      exact J2  h
    · have h := ite_F h q10
      refine sw_iload_n X 2 rfl rfl dX2_lineUp_8 ?_
      refine sw_bipush X (v := 6) (by decide) dX2_lineUp_9 ?_
      refine sw_icmp_lt X 45 (by decide) dX2_lineUp_11 (fun q11 => ?_) (fun q11 => ?_)
      · have h := ite_T h q11
        refine sw_iconst X (v := 0) (by decide) dX2_lineUp_45 ?_
        refine sw_istore X [(5, .int 0), (0, .ref (g.1 57)), (1, .ref (g.1 15)), (2, .int a3), (3, .int a4), (4, .int a5)] (by decide) rfl dX2_lineUp_46 ?_
        refine sw_sub [1, 2, 3, 4, 5, 0] rfl ?_
        refine lz2_E (fun (x12 : Int32) (s13 : sw_St) => sw_V p l e (5 + n + 1) s m args below meth c g (sw_A g s.heap.size) (sw_QV below g args s  st1) 6 48 [(0, .ref (g.1 57)), (1, .ref (g.1 15)), (2, .int a3), (3, .int a4), (4, .int a5), (5, .int x12)] [] s13) h (fun f14 ih15 x12 s13 h => ?_)
        refine sw_iload X 5 rfl dX2_lineUp_48 ?_
        refine sw_aload_n X 1 rfl rfl dX2_lineUp_50 ?_
        refine sw_getI X sw_cl4 (show sw_kd 15 = 4 from rfl) (k := 0) rfl (by decide) wf_X2_53 dX2_lineUp_51 ?_
        refine sw_icmp_ge X 105 (by decide) dX2_lineUp_54 (fun q16 => ?_) (fun q16 => ?_)
        · have h := ite_T h q16
          exact sw_vret X hr hlk dX2_lineUp_105 h
        · have h := ite_F h q16
          refine sw_iload X 4 rfl dX2_lineUp_57 ?_
          refine sw_iload X 5 rfl dX2_lineUp_59 ?_
          refine sw_ishr X dX2_lineUp_61 ?_
          refine sw_iconst X (v := 1) (by decide) dX2_lineUp_62 ?_
          refine sw_iand X dX2_lineUp_63 ?_
          refine jn1_E (fun (s17 : sw_St) => sw_V p l e (5 + n + 1) s m args below meth c g (sw_A g s.heap.size) (sw_QV below g args s  st1) 6 99 [(0, .ref (g.1 57)), (1, .ref (g.1 15)), (2, .int a3), (3, .int a4), (4, .int a5), (5, .int x12)] [] s17) h (fun s17 h => ?_) (fun k18 J19 h => ?_)
          · obtain ⟨x20, ex20⟩ : ∃ y : Int32, y = x12 + 1 := ⟨_, rfl⟩
            have h := nm_E h ex20
            refine sw_iinc X 5 x20 [(5, .int x20), (0, .ref (g.1 57)), (1, .ref (g.1 15)), (2, .int a3), (3, .int a4), (4, .int a5)] rfl (by rw [ex20]; rfl) (by decide) rfl dX2_lineUp_99 ?_
            refine sw_goto X 48 (by decide) dX2_lineUp_102 ?_
            refine sw_sub [1, 2, 3, 4, 5, 0] rfl ?_
            exact ih15 _ _ h
          · refine sw_if_ne X 99 (by decide) dX2_lineUp_64 (fun q21 => ?_) (fun q21 => ?_)
            · have h := ite_F h q21
              exact J19 _ h
            · have h := ite_T h q21
              refine sw_aload_n X 0 rfl rfl dX2_lineUp_67 ?_
              refine sw_getR X sw_cl2 (show sw_kd 57 = 2 from rfl) (k := 0) rfl (by decide) (o1 := 58) rfl wf_X2_9 dX2_lineUp_68 ?_
              refine sw_iload_n X 2 rfl rfl dX2_lineUp_71 ?_
              refine sw_iload X 5 rfl dX2_lineUp_72 ?_
              obtain ⟨q22, h⟩ := bnd_E h
              refine sw_iast X (show sw_kd 58 = 8 from rfl) (n := 6) rfl q22 dX2_lineUp_74 (fun s23 es23 => ?_)
              have h := nm_E h es23
              refine sw_aload_n X 0 rfl rfl dX2_lineUp_75 ?_
              refine sw_aload_n X 1 rfl rfl dX2_lineUp_76 ?_
              refine sw_iload_n X 2 rfl rfl dX2_lineUp_77 ?_
              refine sw_iconst X (v := 1) (by decide) dX2_lineUp_78 ?_
              refine sw_iadd X dX2_lineUp_79 ?_
              refine sw_aload_n X 1 rfl rfl dX2_lineUp_80 ?_
              refine sw_iload X 5 rfl dX2_lineUp_81 ?_
              refine sw_iload_n X 3 rfl rfl dX2_lineUp_83 ?_
              refine sw_iload X 4 rfl dX2_lineUp_84 ?_
              obtain ⟨r25, c24, h⟩ := bo_E h
              refine sw_callVI X (o := 15) (As := (fun g => [.int x12, .int a4, .int a5])) sw_cl4 (show sw_kd 15 = 4 from rfl) ws_X4_woundBy (by omega) (c_X4_woundBy F (show sw_kd 15 = 4 from rfl) x12 a4 a5 s23 c24) rfl rfl (Nat.le_of_ble_eq_true rfl) wm_X2_56 dX2_lineUp_86 ?_
              refine sw_iload X 4 rfl dX2_lineUp_89 ?_
              refine sw_iconst X (v := 1) (by decide) dX2_lineUp_91 ?_
              refine sw_iload X 5 rfl dX2_lineUp_92 ?_
              refine sw_ishl X dX2_lineUp_94 ?_
              refine sw_ior X dX2_lineUp_95 ?_
              obtain ⟨u28, s27, c26, h⟩ := bd_E h
              refine sw_callSV X (As := (fun g => [.ref (g.1 57), .ref (g.1 15), .int (a3 + 1), .int r25, .int (a5 ||| (1 <<< (x12 &&& 31)))])) ws_X2_lineUp (by omega) (ihR (a3 + 1) r25 (a5 ||| (1 <<< (x12 &&& 31))) s23 _ c26) rfl rfl (Nat.le_of_ble_eq_true rfl) wm_X2_43 dX2_lineUp_96 ?_
              exact J19 _ h
      · have h := ite_F h q11
        refine sw_sub [0, 3] rfl ?_
        exact J2  h
theorem dX2_search_0 : decode cX2_search 0 = .ok (.aload_n 0, 1) := by decide +kernel
theorem dX2_search_1 : decode cX2_search 1 = .ok (.aload_n 1, 1) := by decide +kernel
theorem dX2_search_2 : decode cX2_search 2 = .ok (.invokevirtual 25, 3) := by decide +kernel
theorem dX2_search_5 : decode cX2_search 5 = .ok (.invokestatic 31, 3) := by decide +kernel
theorem dX2_search_8 : decode cX2_search 8 = .ok (.putfield 18, 3) := by decide +kernel
theorem dX2_search_11 : decode cX2_search 11 = .ok (.aload_n 0, 1) := by decide +kernel
theorem dX2_search_12 : decode cX2_search 12 = .ok (.iconst (-1), 1) := by decide +kernel
theorem dX2_search_13 : decode cX2_search 13 = .ok (.putfield 22, 3) := by decide +kernel
theorem dX2_search_16 : decode cX2_search 16 = .ok (.aload_n 0, 1) := by decide +kernel
theorem dX2_search_17 : decode cX2_search 17 = .ok (.aload_n 1, 1) := by decide +kernel
theorem dX2_search_18 : decode cX2_search 18 = .ok (.iconst 0, 1) := by decide +kernel
theorem dX2_search_19 : decode cX2_search 19 = .ok (.aload_n 1, 1) := by decide +kernel
theorem dX2_search_20 : decode cX2_search 20 = .ok (.getfield 37, 3) := by decide +kernel
theorem dX2_search_23 : decode cX2_search 23 = .ok (.aload_n 1, 1) := by decide +kernel
theorem dX2_search_24 : decode cX2_search 24 = .ok (.getfield 40, 3) := by decide +kernel
theorem dX2_search_27 : decode cX2_search 27 = .ok (.invokestatic 43, 3) := by decide +kernel
theorem dX2_search_30 : decode cX2_search 30 = .ok (.return_, 1) := by decide +kernel
def j_X2_search (F : Nat) (st : sw_St) : Option (Unit × sw_St) :=
bo (j_X4_notIn F 15 st) (fun (r2 : Int32) =>
bo (j_J6_bitCount_0f7a4 F r2 st) (fun (r4 : Int32) =>
nm (sw_setC st 57 2 r4) (fun (s5 : sw_St) =>
nm (sw_setC s5 57 3 (-1)) (fun (s6 : sw_St) =>
bd (j_X2_lineUp F 8 0 (s6.1 15 7) (s6.1 15 11) s6) (fun (_ : Unit) (s8 : sw_St) =>
some ((), s8))))))
set_option maxHeartbeats 4000000 in
set_option maxRecDepth 100000 in
theorem c_X2_search (F : Nat) (st : sw_St) {st1 : sw_St} (h : j_X2_search F  st = some ((), st1)) : sw_CV yX2_search (.code yX2_search cX2_search 2 none) 14 (fun g => [.ref (g.1 57), .ref (g.1 15)]) st  st1 := by
  refine sw_entV RX2 (fun g => [(0, .ref (g.1 57)), (1, .ref (g.1 15))]) (by decide) rfl (fun _ => Nat.le_of_ble_eq_true rfl) (fun _ => rfl) ?_
  intro p l e s m args below meth c g X hr hlk
  unfold j_X2_search at h
  refine sw_aload_n X 0 rfl rfl dX2_search_0 ?_
  refine sw_aload_n X 1 rfl rfl dX2_search_1 ?_
  obtain ⟨r2, c1, h⟩ := bo_E h
  refine sw_callVI X (o := 15) (As := (fun g => [])) sw_cl4 (show sw_kd 15 = 4 from rfl) ws_X4_notIn (by omega) (c_X4_notIn F (show sw_kd 15 = 4 from rfl) st c1) rfl rfl (Nat.le_of_ble_eq_true rfl) wm_X2_25 dX2_search_2 ?_
  obtain ⟨r4, c3, h⟩ := bo_E h
  refine sw_callSI X (As := (fun g => [.int r2])) ws_J6_bitCount_0f7a4 (by omega) (c_J6_bitCount_0f7a4 F r2 st c3) rfl rfl (Nat.le_of_ble_eq_true rfl) wm_X2_31 dX2_search_5 ?_
  refine sw_putI X sw_cl2 (show sw_kd 57 = 2 from rfl) (k := 2) rfl (by decide) rfl rfl wf_X2_18 dX2_search_8 (fun s5 es5 => ?_)
  have h := nm_E h es5
  refine sw_aload_n X 0 rfl rfl dX2_search_11 ?_
  refine sw_iconst X (v := (-1)) (by decide) dX2_search_12 ?_
  refine sw_putI X sw_cl2 (show sw_kd 57 = 2 from rfl) (k := 3) rfl (by decide) rfl rfl wf_X2_22 dX2_search_13 (fun s6 es6 => ?_)
  have h := nm_E h es6
  refine sw_aload_n X 0 rfl rfl dX2_search_16 ?_
  refine sw_aload_n X 1 rfl rfl dX2_search_17 ?_
  refine sw_iconst X (v := 0) (by decide) dX2_search_18 ?_
  refine sw_aload_n X 1 rfl rfl dX2_search_19 ?_
  refine sw_getI X sw_cl4 (show sw_kd 15 = 4 from rfl) (k := 7) rfl (by decide) wf_X2_37 dX2_search_20 ?_
  refine sw_aload_n X 1 rfl rfl dX2_search_23 ?_
  refine sw_getI X sw_cl4 (show sw_kd 15 = 4 from rfl) (k := 11) rfl (by decide) wf_X2_40 dX2_search_24 ?_
  obtain ⟨u9, s8, c7, h⟩ := bd_E h
  refine sw_callSV X (As := (fun g => [.ref (g.1 57), .ref (g.1 15), .int 0, .int (s6.1 15 7), .int (s6.1 15 11)])) ws_X2_lineUp (by omega) (c_X2_lineUp F 8 0 (s6.1 15 7) (s6.1 15 11) s6 _ c7) rfl rfl (Nat.le_of_ble_eq_true rfl) wm_X2_43 dX2_search_27 ?_
  exact sw_vret X hr hlk dX2_search_30 h
theorem dX3_readFigure_0 : decode cX3_readFigure 0 = .ok (.aload_n 0, 1) := by decide +kernel
theorem dX3_readFigure_1 : decode cX3_readFigure 1 = .ok (.getfield 19, 3) := by decide +kernel
theorem dX3_readFigure_4 : decode cX3_readFigure 4 = .ok (.aload_n 0, 1) := by decide +kernel
theorem dX3_readFigure_5 : decode cX3_readFigure 5 = .ok (.getfield 15, 3) := by decide +kernel
theorem dX3_readFigure_8 : decode cX3_readFigure 8 = .ok (.if_icmp .ge 35, 3) := by decide +kernel
theorem dX3_readFigure_11 : decode cX3_readFigure 11 = .ok (.aload_n 0, 1) := by decide +kernel
theorem dX3_readFigure_12 : decode cX3_readFigure 12 = .ok (.getfield 9, 3) := by decide +kernel
theorem dX3_readFigure_15 : decode cX3_readFigure 15 = .ok (.aload_n 0, 1) := by decide +kernel
theorem dX3_readFigure_16 : decode cX3_readFigure 16 = .ok (.getfield 19, 3) := by decide +kernel
theorem dX3_readFigure_19 : decode cX3_readFigure 19 = .ok (.baload, 1) := by decide +kernel
theorem dX3_readFigure_20 : decode cX3_readFigure 20 = .ok (.bipush 48, 2) := by decide +kernel
theorem dX3_readFigure_22 : decode cX3_readFigure 22 = .ok (.iload_n 1, 1) := by decide +kernel
theorem dX3_readFigure_23 : decode cX3_readFigure 23 = .ok (.iadd, 1) := by decide +kernel
theorem dX3_readFigure_24 : decode cX3_readFigure 24 = .ok (.if_icmp .lt 19, 3) := by decide +kernel
theorem dX3_readFigure_27 : decode cX3_readFigure 27 = .ok (.aload_n 0, 1) := by decide +kernel
theorem dX3_readFigure_28 : decode cX3_readFigure 28 = .ok (.getfield 9, 3) := by decide +kernel
theorem dX3_readFigure_31 : decode cX3_readFigure 31 = .ok (.aload_n 0, 1) := by decide +kernel
theorem dX3_readFigure_32 : decode cX3_readFigure 32 = .ok (.getfield 19, 3) := by decide +kernel
theorem dX3_readFigure_35 : decode cX3_readFigure 35 = .ok (.baload, 1) := by decide +kernel
theorem dX3_readFigure_36 : decode cX3_readFigure 36 = .ok (.bipush 48, 2) := by decide +kernel
theorem dX3_readFigure_38 : decode cX3_readFigure 38 = .ok (.iload_n 2, 1) := by decide +kernel
theorem dX3_readFigure_39 : decode cX3_readFigure 39 = .ok (.iadd, 1) := by decide +kernel
theorem dX3_readFigure_40 : decode cX3_readFigure 40 = .ok (.if_icmp .le 5, 3) := by decide +kernel
theorem dX3_readFigure_43 : decode cX3_readFigure 43 = .ok (.iconst (-1), 1) := by decide +kernel
theorem dX3_readFigure_44 : decode cX3_readFigure 44 = .ok (.ireturn, 1) := by decide +kernel
theorem dX3_readFigure_45 : decode cX3_readFigure 45 = .ok (.aload_n 0, 1) := by decide +kernel
theorem dX3_readFigure_46 : decode cX3_readFigure 46 = .ok (.getfield 9, 3) := by decide +kernel
theorem dX3_readFigure_49 : decode cX3_readFigure 49 = .ok (.aload_n 0, 1) := by decide +kernel
theorem dX3_readFigure_50 : decode cX3_readFigure 50 = .ok (.getfield 19, 3) := by decide +kernel
theorem dX3_readFigure_53 : decode cX3_readFigure 53 = .ok (.baload, 1) := by decide +kernel
theorem dX3_readFigure_54 : decode cX3_readFigure 54 = .ok (.bipush 48, 2) := by decide +kernel
theorem dX3_readFigure_56 : decode cX3_readFigure 56 = .ok (.isub, 1) := by decide +kernel
theorem dX3_readFigure_57 : decode cX3_readFigure 57 = .ok (.istore_n 3, 1) := by decide +kernel
theorem dX3_readFigure_58 : decode cX3_readFigure 58 = .ok (.aload_n 0, 1) := by decide +kernel
theorem dX3_readFigure_59 : decode cX3_readFigure 59 = .ok (.dup, 1) := by decide +kernel
theorem dX3_readFigure_60 : decode cX3_readFigure 60 = .ok (.getfield 19, 3) := by decide +kernel
theorem dX3_readFigure_63 : decode cX3_readFigure 63 = .ok (.iconst 1, 1) := by decide +kernel
theorem dX3_readFigure_64 : decode cX3_readFigure 64 = .ok (.iadd, 1) := by decide +kernel
theorem dX3_readFigure_65 : decode cX3_readFigure 65 = .ok (.putfield 19, 3) := by decide +kernel
theorem dX3_readFigure_68 : decode cX3_readFigure 68 = .ok (.iload_n 3, 1) := by decide +kernel
theorem dX3_readFigure_69 : decode cX3_readFigure 69 = .ok (.ireturn, 1) := by decide +kernel
def j_X3_readFigure (F : Nat) (a1 : Int32) (a2 : Int32) (st : sw_St) : Option (Int32 × sw_St) :=
jn (
  some (((-1) : Int32), st)) (fun k1 =>
 (if (st.1 52 1) ≤ (st.1 52 2) then (
  k1)
 else (
  grd (sw_kd st.2.2 = 7) (bnd (st.1 52 2) (sw_ln st.2.2) (
  (if (st.1 st.2.2 ((st.1 52 2) : Int32).toNatClampNeg) < (48 + a1) then (
   k1)
  else (
   grd (sw_kd st.2.2 = 7) (bnd (st.1 52 2) (sw_ln st.2.2) (
   (if (st.1 st.2.2 ((st.1 52 2) : Int32).toNatClampNeg) ≤ (48 + a2) then (
    grd (sw_kd st.2.2 = 7) (bnd (st.1 52 2) (sw_ln st.2.2) (
    nm ((st.1 st.2.2 ((st.1 52 2) : Int32).toNatClampNeg) - 48) (fun (x12 : Int32) =>
    nm (sw_setC st 52 2 ((st.1 52 2) + 1)) (fun (s13 : sw_St) =>
    some ((x12 : Int32), s13))))))
   else (
    k1)))))))))))
set_option maxHeartbeats 4000000 in
set_option maxRecDepth 100000 in
theorem c_X3_readFigure (F : Nat) (a1 : Int32) (a2 : Int32) (st : sw_St) {r : Int32} {st1 : sw_St} (h : j_X3_readFigure F a1 a2 st = some (r, st1)) : sw_CI yX3_readFigure (.code yX3_readFigure cX3_readFigure 4 (some .int)) 1 (fun g => [.ref (g.1 52), .int a1, .int a2]) st r st1 := by
  refine sw_entI RX3 (fun g => [(0, .ref (g.1 52)), (1, .int a1), (2, .int a2)]) (by decide) rfl (fun _ => Nat.le_of_ble_eq_true rfl) (fun _ => rfl) ?_
  intro p l e s m args below meth c g X hr hlk
  unfold j_X3_readFigure at h
  refine sw_aload_n X 0 rfl rfl dX3_readFigure_0 ?_
  refine sw_getI X sw_cl3 (show sw_kd 52 = 3 from rfl) (k := 2) rfl (by decide) wf_X3_19 dX3_readFigure_1 ?_
  refine sw_aload_n X 0 rfl rfl dX3_readFigure_4 ?_
  refine sw_getI X sw_cl3 (show sw_kd 52 = 3 from rfl) (k := 1) rfl (by decide) wf_X3_15 dX3_readFigure_5 ?_
  refine jn0_E (sw_V p l e 1 s m args below meth c g (sw_A g s.heap.size) (sw_QI below g args s r st1) 4 43 [] [] st) h (fun h => ?_) (fun k1 J2 h => ?_)
  · refine sw_iconst X (v := (-1)) (by decide) dX3_readFigure_43 ?_
    exact sw_iret X hr hlk dX3_readFigure_44 h
  · refine sw_icmp_ge X 43 (by decide) dX3_readFigure_8 (fun q3 => ?_) (fun q3 => ?_)
    · have h := ite_T h q3
      refine sw_sub [] rfl ?_
      exact J2  h
    · have h := ite_F h q3
      refine sw_aload_n X 0 rfl rfl dX3_readFigure_11 ?_
      refine sw_getR X sw_cl3 (show sw_kd 52 = 3 from rfl) (k := 0) rfl (by decide) (o1 := st.2.2) rfl wf_X3_9 dX3_readFigure_12 ?_
      refine sw_aload_n X 0 rfl rfl dX3_readFigure_15 ?_
      refine sw_getI X sw_cl3 (show sw_kd 52 = 3 from rfl) (k := 2) rfl (by decide) wf_X3_19 dX3_readFigure_16 ?_
      obtain ⟨q5, h⟩ := grd_E h
      obtain ⟨q4, h⟩ := bnd_E h
      refine sw_bald X q5 rfl q4 dX3_readFigure_19 ?_
      refine sw_bipush X (v := 48) (by decide) dX3_readFigure_20 ?_
      refine sw_iload_n X 1 rfl rfl dX3_readFigure_22 ?_
      refine sw_iadd X dX3_readFigure_23 ?_
      refine sw_icmp_lt X 43 (by decide) dX3_readFigure_24 (fun q6 => ?_) (fun q6 => ?_)
      · have h := ite_T h q6
        refine sw_sub [] rfl ?_
        exact J2  h
      · have h := ite_F h q6
        refine sw_aload_n X 0 rfl rfl dX3_readFigure_27 ?_
        refine sw_getR X sw_cl3 (show sw_kd 52 = 3 from rfl) (k := 0) rfl (by decide) (o1 := st.2.2) rfl wf_X3_9 dX3_readFigure_28 ?_
        refine sw_aload_n X 0 rfl rfl dX3_readFigure_31 ?_
        refine sw_getI X sw_cl3 (show sw_kd 52 = 3 from rfl) (k := 2) rfl (by decide) wf_X3_19 dX3_readFigure_32 ?_
        obtain ⟨q8, h⟩ := grd_E h
        obtain ⟨q7, h⟩ := bnd_E h
        refine sw_bald X q8 rfl q7 dX3_readFigure_35 ?_
        refine sw_bipush X (v := 48) (by decide) dX3_readFigure_36 ?_
        refine sw_iload_n X 2 rfl rfl dX3_readFigure_38 ?_
        refine sw_iadd X dX3_readFigure_39 ?_
        refine sw_icmp_le X 45 (by decide) dX3_readFigure_40 (fun q9 => ?_) (fun q9 => ?_)
        · have h := ite_T h q9
          refine sw_aload_n X 0 rfl rfl dX3_readFigure_45 ?_
          refine sw_getR X sw_cl3 (show sw_kd 52 = 3 from rfl) (k := 0) rfl (by decide) (o1 := st.2.2) rfl wf_X3_9 dX3_readFigure_46 ?_
          refine sw_aload_n X 0 rfl rfl dX3_readFigure_49 ?_
          refine sw_getI X sw_cl3 (show sw_kd 52 = 3 from rfl) (k := 2) rfl (by decide) wf_X3_19 dX3_readFigure_50 ?_
          obtain ⟨q11, h⟩ := grd_E h
          obtain ⟨q10, h⟩ := bnd_E h
          refine sw_bald X q11 rfl q10 dX3_readFigure_53 ?_
          refine sw_bipush X (v := 48) (by decide) dX3_readFigure_54 ?_
          refine sw_isub X dX3_readFigure_56 ?_
          refine sw_topi (fun x12 ex12 => ?_)
          have h := nm_E h ex12
          refine sw_istore_n X [(3, .int x12), (0, .ref (g.1 52)), (1, .int a1), (2, .int a2)] rfl (by decide) rfl dX3_readFigure_57 ?_
          refine sw_aload_n X 1 rfl rfl dX3_readFigure_58 ?_
          refine sw_dup X rfl dX3_readFigure_59 ?_
          refine sw_getI X sw_cl3 (show sw_kd 52 = 3 from rfl) (k := 2) rfl (by decide) wf_X3_19 dX3_readFigure_60 ?_
          refine sw_iconst X (v := 1) (by decide) dX3_readFigure_63 ?_
          refine sw_iadd X dX3_readFigure_64 ?_
          refine sw_putI X sw_cl3 (show sw_kd 52 = 3 from rfl) (k := 2) rfl (by decide) rfl rfl wf_X3_19 dX3_readFigure_65 (fun s13 es13 => ?_)
          have h := nm_E h es13
          refine sw_iload_n X 0 rfl rfl dX3_readFigure_68 ?_
          exact sw_iret X hr hlk dX3_readFigure_69 h
        · have h := ite_F h q9
          refine sw_sub [] rfl ?_
          exact J2  h
theorem dX3_readSpring_0 : decode cX3_readSpring 0 = .ok (.aload_n 0, 1) := by decide +kernel
theorem dX3_readSpring_1 : decode cX3_readSpring 1 = .ok (.getfield 19, 3) := by decide +kernel
theorem dX3_readSpring_4 : decode cX3_readSpring 4 = .ok (.aload_n 0, 1) := by decide +kernel
theorem dX3_readSpring_5 : decode cX3_readSpring 5 = .ok (.getfield 15, 3) := by decide +kernel
theorem dX3_readSpring_8 : decode cX3_readSpring 8 = .ok (.if_icmp .ge 17, 3) := by decide +kernel
theorem dX3_readSpring_11 : decode cX3_readSpring 11 = .ok (.aload_n 0, 1) := by decide +kernel
theorem dX3_readSpring_12 : decode cX3_readSpring 12 = .ok (.getfield 9, 3) := by decide +kernel
theorem dX3_readSpring_15 : decode cX3_readSpring 15 = .ok (.aload_n 0, 1) := by decide +kernel
theorem dX3_readSpring_16 : decode cX3_readSpring 16 = .ok (.getfield 19, 3) := by decide +kernel
theorem dX3_readSpring_19 : decode cX3_readSpring 19 = .ok (.baload, 1) := by decide +kernel
theorem dX3_readSpring_20 : decode cX3_readSpring 20 = .ok (.bipush 119, 2) := by decide +kernel
theorem dX3_readSpring_22 : decode cX3_readSpring 22 = .ok (.if_icmp .eq 5, 3) := by decide +kernel
theorem dX3_readSpring_25 : decode cX3_readSpring 25 = .ok (.iconst 0, 1) := by decide +kernel
theorem dX3_readSpring_26 : decode cX3_readSpring 26 = .ok (.ireturn, 1) := by decide +kernel
theorem dX3_readSpring_27 : decode cX3_readSpring 27 = .ok (.aload_n 0, 1) := by decide +kernel
theorem dX3_readSpring_28 : decode cX3_readSpring 28 = .ok (.dup, 1) := by decide +kernel
theorem dX3_readSpring_29 : decode cX3_readSpring 29 = .ok (.getfield 19, 3) := by decide +kernel
theorem dX3_readSpring_32 : decode cX3_readSpring 32 = .ok (.iconst 1, 1) := by decide +kernel
theorem dX3_readSpring_33 : decode cX3_readSpring 33 = .ok (.iadd, 1) := by decide +kernel
theorem dX3_readSpring_34 : decode cX3_readSpring 34 = .ok (.putfield 19, 3) := by decide +kernel
theorem dX3_readSpring_37 : decode cX3_readSpring 37 = .ok (.aload_n 0, 1) := by decide +kernel
theorem dX3_readSpring_38 : decode cX3_readSpring 38 = .ok (.getfield 19, 3) := by decide +kernel
theorem dX3_readSpring_41 : decode cX3_readSpring 41 = .ok (.istore_n 2, 1) := by decide +kernel
theorem dX3_readSpring_42 : decode cX3_readSpring 42 = .ok (.aload_n 0, 1) := by decide +kernel
theorem dX3_readSpring_43 : decode cX3_readSpring 43 = .ok (.iconst 0, 1) := by decide +kernel
theorem dX3_readSpring_44 : decode cX3_readSpring 44 = .ok (.bipush 9, 2) := by decide +kernel
theorem dX3_readSpring_46 : decode cX3_readSpring 46 = .ok (.invokevirtual 36, 3) := by decide +kernel
theorem dX3_readSpring_49 : decode cX3_readSpring 49 = .ok (.istore_n 3, 1) := by decide +kernel
theorem dX3_readSpring_50 : decode cX3_readSpring 50 = .ok (.iload_n 3, 1) := by decide +kernel
theorem dX3_readSpring_51 : decode cX3_readSpring 51 = .ok (.ifCond .ge 7, 3) := by decide +kernel
theorem dX3_readSpring_54 : decode cX3_readSpring 54 = .ok (.iconst (-1), 1) := by decide +kernel
theorem dX3_readSpring_55 : decode cX3_readSpring 55 = .ok (.goto 10, 3) := by decide +kernel
theorem dX3_readSpring_58 : decode cX3_readSpring 58 = .ok (.aload_n 0, 1) := by decide +kernel
theorem dX3_readSpring_59 : decode cX3_readSpring 59 = .ok (.iconst 0, 1) := by decide +kernel
theorem dX3_readSpring_60 : decode cX3_readSpring 60 = .ok (.bipush 9, 2) := by decide +kernel
theorem dX3_readSpring_62 : decode cX3_readSpring 62 = .ok (.invokevirtual 36, 3) := by decide +kernel
theorem dX3_readSpring_65 : decode cX3_readSpring 65 = .ok (.istore 4, 2) := by decide +kernel
theorem dX3_readSpring_67 : decode cX3_readSpring 67 = .ok (.iload 4, 2) := by decide +kernel
theorem dX3_readSpring_69 : decode cX3_readSpring 69 = .ok (.ifCond .ge 5, 3) := by decide +kernel
theorem dX3_readSpring_72 : decode cX3_readSpring 72 = .ok (.iconst 0, 1) := by decide +kernel
theorem dX3_readSpring_73 : decode cX3_readSpring 73 = .ok (.ireturn, 1) := by decide +kernel
theorem dX3_readSpring_74 : decode cX3_readSpring 74 = .ok (.bipush 10, 2) := by decide +kernel
theorem dX3_readSpring_76 : decode cX3_readSpring 76 = .ok (.iload_n 3, 1) := by decide +kernel
theorem dX3_readSpring_77 : decode cX3_readSpring 77 = .ok (.imul, 1) := by decide +kernel
theorem dX3_readSpring_78 : decode cX3_readSpring 78 = .ok (.iload 4, 2) := by decide +kernel
theorem dX3_readSpring_80 : decode cX3_readSpring 80 = .ok (.iadd, 1) := by decide +kernel
theorem dX3_readSpring_81 : decode cX3_readSpring 81 = .ok (.bipush 60, 2) := by decide +kernel
theorem dX3_readSpring_83 : decode cX3_readSpring 83 = .ok (.if_icmp .le 10, 3) := by decide +kernel
theorem dX3_readSpring_86 : decode cX3_readSpring 86 = .ok (.aload_n 0, 1) := by decide +kernel
theorem dX3_readSpring_87 : decode cX3_readSpring 87 = .ok (.iload_n 2, 1) := by decide +kernel
theorem dX3_readSpring_88 : decode cX3_readSpring 88 = .ok (.putfield 19, 3) := by decide +kernel
theorem dX3_readSpring_91 : decode cX3_readSpring 91 = .ok (.iconst 0, 1) := by decide +kernel
theorem dX3_readSpring_92 : decode cX3_readSpring 92 = .ok (.ireturn, 1) := by decide +kernel
theorem dX3_readSpring_93 : decode cX3_readSpring 93 = .ok (.aload_n 1, 1) := by decide +kernel
theorem dX3_readSpring_94 : decode cX3_readSpring 94 = .ok (.bipush 10, 2) := by decide +kernel
theorem dX3_readSpring_96 : decode cX3_readSpring 96 = .ok (.iload_n 3, 1) := by decide +kernel
theorem dX3_readSpring_97 : decode cX3_readSpring 97 = .ok (.imul, 1) := by decide +kernel
theorem dX3_readSpring_98 : decode cX3_readSpring 98 = .ok (.iload 4, 2) := by decide +kernel
theorem dX3_readSpring_100 : decode cX3_readSpring 100 = .ok (.iadd, 1) := by decide +kernel
theorem dX3_readSpring_101 : decode cX3_readSpring 101 = .ok (.putfield 40, 3) := by decide +kernel
theorem dX3_readSpring_104 : decode cX3_readSpring 104 = .ok (.aload_n 1, 1) := by decide +kernel
theorem dX3_readSpring_105 : decode cX3_readSpring 105 = .ok (.aload_n 0, 1) := by decide +kernel
theorem dX3_readSpring_106 : decode cX3_readSpring 106 = .ok (.iconst 0, 1) := by decide +kernel
theorem dX3_readSpring_107 : decode cX3_readSpring 107 = .ok (.iconst 3, 1) := by decide +kernel
theorem dX3_readSpring_108 : decode cX3_readSpring 108 = .ok (.invokevirtual 36, 3) := by decide +kernel
theorem dX3_readSpring_111 : decode cX3_readSpring 111 = .ok (.putfield 43, 3) := by decide +kernel
theorem dX3_readSpring_114 : decode cX3_readSpring 114 = .ok (.aload_n 1, 1) := by decide +kernel
theorem dX3_readSpring_115 : decode cX3_readSpring 115 = .ok (.getfield 43, 3) := by decide +kernel
theorem dX3_readSpring_118 : decode cX3_readSpring 118 = .ok (.ifCond .lt 7, 3) := by decide +kernel
theorem dX3_readSpring_121 : decode cX3_readSpring 121 = .ok (.iconst 1, 1) := by decide +kernel
theorem dX3_readSpring_122 : decode cX3_readSpring 122 = .ok (.goto 4, 3) := by decide +kernel
theorem dX3_readSpring_125 : decode cX3_readSpring 125 = .ok (.iconst 0, 1) := by decide +kernel
theorem dX3_readSpring_126 : decode cX3_readSpring 126 = .ok (.ireturn, 1) := by decide +kernel
def j_X3_readSpring (F : Nat) (st : sw_St) : Option (Int32 × sw_St) :=
jn (
  some ((0 : Int32), st)) (fun k1 =>
 (if (st.1 52 1) ≤ (st.1 52 2) then (
  k1)
 else (
  grd (sw_kd st.2.2 = 7) (bnd (st.1 52 2) (sw_ln st.2.2) (
  (if (st.1 st.2.2 ((st.1 52 2) : Int32).toNatClampNeg) = 119 then (
   nm (sw_setC st 52 2 ((st.1 52 2) + 1)) (fun (s7 : sw_St) =>
   nm (s7.1 52 2) (fun (x8 : Int32) =>
   bd (j_X3_readFigure F 0 9 s7) (fun (r10 : Int32) (s11 : sw_St) =>
   jn (fun (x12 : Int32) (s13 : sw_St) => 
     (if 0 ≤ x12 then (
      (if ((10 * r10) + x12) ≤ 60 then (
       nm (sw_setC s13 22 5 ((10 * r10) + x12)) (fun (s18 : sw_St) =>
       bd (j_X3_readFigure F 0 3 s18) (fun (r20 : Int32) (s21 : sw_St) =>
       nm (sw_setC s21 22 6 r20) (fun (s22 : sw_St) =>
       jn (fun (x23 : Int32) => 
         grd (x23 = 0 ∨ x23 = 1) (some ((x23 : Int32), s22))) (fun k24 =>
        (if (s22.1 22 6) < 0 then (
         k24 0)
        else (
         k24 1)))))))
      else (
       nm (sw_setC s13 52 2 x8) (fun (s28 : sw_St) =>
       some ((0 : Int32), s28)))))
     else (
      some ((0 : Int32), s13)))) (fun k14 =>
    (if 0 ≤ r10 then (
     bd (j_X3_readFigure F 0 9 s11) (fun (r31 : Int32) (s32 : sw_St) =>
     k14 r31 s32))
    else (
     k14 (-1) s11)))))))
  else (
   k1)))))))
set_option maxHeartbeats 4000000 in
set_option maxRecDepth 100000 in
theorem c_X3_readSpring (F : Nat) (st : sw_St) {r : Int32} {st1 : sw_St} (h : j_X3_readSpring F  st = some (r, st1)) : sw_CI yX3_readSpring (.code yX3_readSpring cX3_readSpring 5 (some .boolean)) 2 (fun g => [.ref (g.1 52), .ref (g.1 22)]) st r st1 := by
  refine sw_entI RX3 (fun g => [(0, .ref (g.1 52)), (1, .ref (g.1 22))]) (by decide) rfl (fun _ => Nat.le_of_ble_eq_true rfl) (fun _ => rfl) ?_
  intro p l e s m args below meth c g X hr hlk
  unfold j_X3_readSpring at h
  refine sw_aload_n X 0 rfl rfl dX3_readSpring_0 ?_
  refine sw_getI X sw_cl3 (show sw_kd 52 = 3 from rfl) (k := 2) rfl (by decide) wf_X3_19 dX3_readSpring_1 ?_
  refine sw_aload_n X 0 rfl rfl dX3_readSpring_4 ?_
  refine sw_getI X sw_cl3 (show sw_kd 52 = 3 from rfl) (k := 1) rfl (by decide) wf_X3_15 dX3_readSpring_5 ?_
  refine jn0_E (sw_V p l e 2 s m args below meth c g (sw_A g s.heap.size) (sw_QI below g args s r st1) 5 25 [] [] st) h (fun h => ?_) (fun k1 J2 h => ?_)
  · refine sw_iconst X (v := 0) (by decide) dX3_readSpring_25 ?_
    exact sw_zret X hr hlk (Or.inl rfl) dX3_readSpring_26 h
  · refine sw_icmp_ge X 25 (by decide) dX3_readSpring_8 (fun q3 => ?_) (fun q3 => ?_)
    · have h := ite_T h q3
      refine sw_sub [] rfl ?_
      exact J2  h
    · have h := ite_F h q3
      refine sw_aload_n X 0 rfl rfl dX3_readSpring_11 ?_
      refine sw_getR X sw_cl3 (show sw_kd 52 = 3 from rfl) (k := 0) rfl (by decide) (o1 := st.2.2) rfl wf_X3_9 dX3_readSpring_12 ?_
      refine sw_aload_n X 0 rfl rfl dX3_readSpring_15 ?_
      refine sw_getI X sw_cl3 (show sw_kd 52 = 3 from rfl) (k := 2) rfl (by decide) wf_X3_19 dX3_readSpring_16 ?_
      obtain ⟨q5, h⟩ := grd_E h
      obtain ⟨q4, h⟩ := bnd_E h
      refine sw_bald X q5 rfl q4 dX3_readSpring_19 ?_
      refine sw_bipush X (v := 119) (by decide) dX3_readSpring_20 ?_
      refine sw_icmp_eq X 27 (by decide) dX3_readSpring_22 (fun q6 => ?_) (fun q6 => ?_)
      · have h := ite_T h q6
        refine sw_aload_n X 0 rfl rfl dX3_readSpring_27 ?_
        refine sw_dup X rfl dX3_readSpring_28 ?_
        refine sw_getI X sw_cl3 (show sw_kd 52 = 3 from rfl) (k := 2) rfl (by decide) wf_X3_19 dX3_readSpring_29 ?_
        refine sw_iconst X (v := 1) (by decide) dX3_readSpring_32 ?_
        refine sw_iadd X dX3_readSpring_33 ?_
        refine sw_putI X sw_cl3 (show sw_kd 52 = 3 from rfl) (k := 2) rfl (by decide) rfl rfl wf_X3_19 dX3_readSpring_34 (fun s7 es7 => ?_)
        have h := nm_E h es7
        refine sw_aload_n X 0 rfl rfl dX3_readSpring_37 ?_
        refine sw_getI X sw_cl3 (show sw_kd 52 = 3 from rfl) (k := 2) rfl (by decide) wf_X3_19 dX3_readSpring_38 ?_
        refine sw_topi (fun x8 ex8 => ?_)
        have h := nm_E h ex8
        refine sw_istore_n X [(2, .int x8), (0, .ref (g.1 52)), (1, .ref (g.1 22))] rfl (by decide) rfl dX3_readSpring_41 ?_
        refine sw_aload_n X 1 rfl rfl dX3_readSpring_42 ?_
        refine sw_iconst X (v := 0) (by decide) dX3_readSpring_43 ?_
        refine sw_bipush X (v := 9) (by decide) dX3_readSpring_44 ?_
        obtain ⟨r10, s11, c9, h⟩ := bd_E h
        refine sw_callVI X (o := 52) (As := (fun g => [.int 0, .int 9])) sw_cl3 (show sw_kd 52 = 3 from rfl) ws_X3_readFigure (by omega) (c_X3_readFigure F 0 9 s7 c9) rfl rfl (Nat.le_of_ble_eq_true rfl) wm_X3_36 dX3_readSpring_46 ?_
        refine sw_istore_n X [(3, .int r10), (2, .int x8), (0, .ref (g.1 52)), (1, .ref (g.1 22))] rfl (by decide) rfl dX3_readSpring_49 ?_
        refine sw_iload_n X 0 rfl rfl dX3_readSpring_50 ?_
        refine jn2_E (fun (x12 : Int32) (s13 : sw_St) => sw_V p l e 2 s m args below meth c g (sw_A g s.heap.size) (sw_QI below g args s r st1) 5 65 [(0, .ref (g.1 52)), (1, .ref (g.1 22)), (2, .int x8), (3, .int r10)] [.int x12] s13) h (fun x12 s13 h => ?_) (fun k14 J15 h => ?_)
        · refine sw_istore X [(4, .int x12), (0, .ref (g.1 52)), (1, .ref (g.1 22)), (2, .int x8), (3, .int r10)] (by decide) rfl dX3_readSpring_65 ?_
          refine sw_iload X 0 rfl dX3_readSpring_67 ?_
          refine sw_if_ge X 74 (by decide) dX3_readSpring_69 (fun q16 => ?_) (fun q16 => ?_)
          · have h := ite_T h q16
            refine sw_bipush X (v := 10) (by decide) dX3_readSpring_74 ?_
            refine sw_iload_n X 4 rfl rfl dX3_readSpring_76 ?_
            refine sw_imul X dX3_readSpring_77 ?_
            refine sw_iload X 0 rfl dX3_readSpring_78 ?_
            refine sw_iadd X dX3_readSpring_80 ?_
            refine sw_bipush X (v := 60) (by decide) dX3_readSpring_81 ?_
            refine sw_icmp_le X 93 (by decide) dX3_readSpring_83 (fun q17 => ?_) (fun q17 => ?_)
            · have h := ite_T h q17
              refine sw_aload_n X 2 rfl rfl dX3_readSpring_93 ?_
              refine sw_bipush X (v := 10) (by decide) dX3_readSpring_94 ?_
              refine sw_iload_n X 4 rfl rfl dX3_readSpring_96 ?_
              refine sw_imul X dX3_readSpring_97 ?_
              refine sw_iload X 0 rfl dX3_readSpring_98 ?_
              refine sw_iadd X dX3_readSpring_100 ?_
              refine sw_putI X sw_cl4 (show sw_kd 22 = 4 from rfl) (k := 5) rfl (by decide) rfl rfl wf_X3_40 dX3_readSpring_101 (fun s18 es18 => ?_)
              have h := nm_E h es18
              refine sw_aload_n X 2 rfl rfl dX3_readSpring_104 ?_
              refine sw_aload_n X 1 rfl rfl dX3_readSpring_105 ?_
              refine sw_iconst X (v := 0) (by decide) dX3_readSpring_106 ?_
              refine sw_iconst X (v := 3) (by decide) dX3_readSpring_107 ?_
              obtain ⟨r20, s21, c19, h⟩ := bd_E h
              refine sw_callVI X (o := 52) (As := (fun g => [.int 0, .int 3])) sw_cl3 (show sw_kd 52 = 3 from rfl) ws_X3_readFigure (by omega) (c_X3_readFigure F 0 3 s18 c19) rfl rfl (Nat.le_of_ble_eq_true rfl) wm_X3_36 dX3_readSpring_108 ?_
              refine sw_putI X sw_cl4 (show sw_kd 22 = 4 from rfl) (k := 6) rfl (by decide) rfl rfl wf_X3_43 dX3_readSpring_111 (fun s22 es22 => ?_)
              have h := nm_E h es22
              refine sw_aload_n X 2 rfl rfl dX3_readSpring_114 ?_
              refine sw_getI X sw_cl4 (show sw_kd 22 = 4 from rfl) (k := 6) rfl (by decide) wf_X3_43 dX3_readSpring_115 ?_
              refine jn1_E (fun (x23 : Int32) => sw_V p l e 2 s m args below meth c g (sw_A g s.heap.size) (sw_QI below g args s r st1) 5 126 [] [.int x23] s22) h (fun x23 h => ?_) (fun k24 J25 h => ?_)
              · obtain ⟨q26, h⟩ := grd_E h
                exact sw_zret X hr hlk q26 dX3_readSpring_126 h
              · refine sw_if_lt X 125 (by decide) dX3_readSpring_118 (fun q27 => ?_) (fun q27 => ?_)
                · have h := ite_T h q27
                  refine sw_iconst X (v := 0) (by decide) dX3_readSpring_125 ?_
                  refine sw_sub [] rfl ?_
                  exact J25 _ h
                · have h := ite_F h q27
                  refine sw_iconst X (v := 1) (by decide) dX3_readSpring_121 ?_
                  refine sw_goto X 126 (by decide) dX3_readSpring_122 ?_
                  refine sw_sub [] rfl ?_
                  exact J25 _ h
            · have h := ite_F h q17
              refine sw_aload_n X 1 rfl rfl dX3_readSpring_86 ?_
              refine sw_iload_n X 3 rfl rfl dX3_readSpring_87 ?_
              refine sw_putI X sw_cl3 (show sw_kd 52 = 3 from rfl) (k := 2) rfl (by decide) rfl rfl wf_X3_19 dX3_readSpring_88 (fun s28 es28 => ?_)
              have h := nm_E h es28
              refine sw_iconst X (v := 0) (by decide) dX3_readSpring_91 ?_
              exact sw_zret X hr hlk (Or.inl rfl) dX3_readSpring_92 h
          · have h := ite_F h q16
            refine sw_iconst X (v := 0) (by decide) dX3_readSpring_72 ?_
            exact sw_zret X hr hlk (Or.inl rfl) dX3_readSpring_73 h
        · refine sw_if_ge X 58 (by decide) dX3_readSpring_51 (fun q29 => ?_) (fun q29 => ?_)
          · have h := ite_T h q29
            refine sw_aload_n X 2 rfl rfl dX3_readSpring_58 ?_
            refine sw_iconst X (v := 0) (by decide) dX3_readSpring_59 ?_
            refine sw_bipush X (v := 9) (by decide) dX3_readSpring_60 ?_
            obtain ⟨r31, s32, c30, h⟩ := bd_E h
            refine sw_callVI X (o := 52) (As := (fun g => [.int 0, .int 9])) sw_cl3 (show sw_kd 52 = 3 from rfl) ws_X3_readFigure (by omega) (c_X3_readFigure F 0 9 s11 c30) rfl rfl (Nat.le_of_ble_eq_true rfl) wm_X3_36 dX3_readSpring_62 ?_
            refine sw_sub [2, 3, 1, 0] rfl ?_
            exact J15 _ _ h
          · have h := ite_F h q29
            refine sw_iconst X (v := (-1)) (by decide) dX3_readSpring_54 ?_
            refine sw_goto X 65 (by decide) dX3_readSpring_55 ?_
            refine sw_sub [2, 3, 1, 0] rfl ?_
            exact J15 _ _ h
      · have h := ite_F h q6
        refine sw_sub [] rfl ?_
        exact J2  h
