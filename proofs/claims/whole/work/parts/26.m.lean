theorem dX6_ways_0 : decode cX6_ways 0 = .ok (.iload_n 1, 1) := by decide +kernel
theorem dX6_ways_1 : decode cX6_ways 1 = .ok (.i2l, 1) := by decide +kernel
theorem dX6_ways_2 : decode cX6_ways 2 = .ok (.lconst 0, 1) := by decide +kernel
theorem dX6_ways_3 : decode cX6_ways 3 = .ok (.ldc2_w 61, 3) := by decide +kernel
theorem dX6_ways_6 : decode cX6_ways 6 = .ok (.invokestatic 63, 3) := by decide +kernel
theorem dX6_ways_9 : decode cX6_ways 9 = .ok (.ifCond .eq 15, 3) := by decide +kernel
theorem dX6_ways_12 : decode cX6_ways 12 = .ok (.iload_n 2, 1) := by decide +kernel
theorem dX6_ways_13 : decode cX6_ways 13 = .ok (.i2l, 1) := by decide +kernel
theorem dX6_ways_14 : decode cX6_ways 14 = .ok (.lconst 0, 1) := by decide +kernel
theorem dX6_ways_15 : decode cX6_ways 15 = .ok (.ldc2_w 238, 3) := by decide +kernel
theorem dX6_ways_18 : decode cX6_ways 18 = .ok (.invokestatic 63, 3) := by decide +kernel
theorem dX6_ways_21 : decode cX6_ways 21 = .ok (.ifCond .ne 5, 3) := by decide +kernel
theorem dX6_ways_24 : decode cX6_ways 24 = .ok (.iconst (-1), 1) := by decide +kernel
theorem dX6_ways_25 : decode cX6_ways 25 = .ok (.ireturn, 1) := by decide +kernel
theorem dX6_ways_26 : decode cX6_ways 26 = .ok (.aload_n 0, 1) := by decide +kernel
theorem dX6_ways_27 : decode cX6_ways 27 = .ok (.getfield 136, 3) := by decide +kernel
theorem dX6_ways_30 : decode cX6_ways 30 = .ok (.ifCond .ne 6, 3) := by decide +kernel
theorem dX6_ways_33 : decode cX6_ways 33 = .ok (.bipush (-4), 2) := by decide +kernel
theorem dX6_ways_35 : decode cX6_ways 35 = .ok (.ireturn, 1) := by decide +kernel
theorem dX6_ways_36 : decode cX6_ways 36 = .ok (.aload_n 0, 1) := by decide +kernel
theorem dX6_ways_37 : decode cX6_ways 37 = .ok (.aload_n 0, 1) := by decide +kernel
theorem dX6_ways_38 : decode cX6_ways 38 = .ok (.iload_n 1, 1) := by decide +kernel
theorem dX6_ways_39 : decode cX6_ways 39 = .ok (.iload_n 2, 1) := by decide +kernel
theorem dX6_ways_40 : decode cX6_ways 40 = .ok (.invokevirtual 240, 3) := by decide +kernel
theorem dX6_ways_43 : decode cX6_ways 43 = .ok (.putfield 58, 3) := by decide +kernel
theorem dX6_ways_46 : decode cX6_ways 46 = .ok (.iconst 1, 1) := by decide +kernel
theorem dX6_ways_47 : decode cX6_ways 47 = .ok (.ireturn, 1) := by decide +kernel
def j_X6_ways (F : Nat) (a1 : Int32) (a2 : Int32) (st : sw_St) : Option (Int32 × sw_St) :=
bo (j_X6_in F ((a1 : Int32).toInt64) 0 5 st) (fun (r2 : Int32) =>
jn (
  some (((-1) : Int32), st)) (fun k3 =>
 (if r2 = 0 then (
  k3)
 else (
  bo (j_X6_in F ((a2 : Int32).toInt64) 0 11 st) (fun (r7 : Int32) =>
  (if r7 = 0 then (
   k3)
  else (
   (if (st.1 63 1) = 0 then (
    some (((-4) : Int32), st))
   else (
    bd (j_X6_leastBread F a1 a2 st) (fun (r11 : Int32) (s12 : sw_St) =>
    nm (sw_setC s12 63 9 r11) (fun (s13 : sw_St) =>
    some ((1 : Int32), s13))))))))))))
set_option maxHeartbeats 4000000 in
set_option maxRecDepth 100000 in
theorem c_X6_ways (F : Nat) (a1 : Int32) (a2 : Int32) (st : sw_St) {r : Int32} {st1 : sw_St} (h : j_X6_ways F a1 a2 st = some (r, st1)) : sw_CI yX6_ways (.code yX6_ways cX6_ways 3 (some .int)) 7 (fun g => [.ref (g.1 63), .int a1, .int a2]) st r st1 := by
  refine sw_entI RX6 (fun g => [(0, .ref (g.1 63)), (1, .int a1), (2, .int a2)]) (by decide) rfl (fun _ => Nat.le_of_ble_eq_true rfl) (fun _ => rfl) ?_
  intro p l e s m args below meth c g X hr hlk
  unfold j_X6_ways at h
  refine sw_iload_n X 1 rfl rfl dX6_ways_0 ?_
  refine sw_i2l X dX6_ways_1 ?_
  refine sw_lconst X (v := 0) (by decide) dX6_ways_2 ?_
  refine sw_ldc2 X (v := 5) wl_X6_61 dX6_ways_3 ?_
  obtain ⟨r2, c1, h⟩ := bo_E h
  refine sw_callSI X (As := (fun g => [.long ((a1 : Int32).toInt64), .long 0, .long 5])) ws_X6_in (by omega) (c_X6_in F ((a1 : Int32).toInt64) 0 5 st c1) rfl rfl (Nat.le_of_ble_eq_true rfl) wm_X6_63 dX6_ways_6 ?_
  refine jn0_E (sw_V p l e 7 s m args below meth c g (sw_A g s.heap.size) (sw_QI below g args s r st1) 3 24 [] [] st) h (fun h => ?_) (fun k3 J4 h => ?_)
  · refine sw_iconst X (v := (-1)) (by decide) dX6_ways_24 ?_
    exact sw_iret X hr hlk dX6_ways_25 h
  · refine sw_if_eq X 24 (by decide) dX6_ways_9 (fun q5 => ?_) (fun q5 => ?_)
    · have h := ite_T h q5
      refine sw_sub [] rfl ?_
      exact J4  h
    · have h := ite_F h q5
      refine sw_iload_n X 2 rfl rfl dX6_ways_12 ?_
      refine sw_i2l X dX6_ways_13 ?_
      refine sw_lconst X (v := 0) (by decide) dX6_ways_14 ?_
      refine sw_ldc2 X (v := 11) wl_X6_238 dX6_ways_15 ?_
      obtain ⟨r7, c6, h⟩ := bo_E h
      refine sw_callSI X (As := (fun g => [.long ((a2 : Int32).toInt64), .long 0, .long 11])) ws_X6_in (by omega) (c_X6_in F ((a2 : Int32).toInt64) 0 11 st c6) rfl rfl (Nat.le_of_ble_eq_true rfl) wm_X6_63 dX6_ways_18 ?_
      refine sw_if_ne X 26 (by decide) dX6_ways_21 (fun q8 => ?_) (fun q8 => ?_)
      · have h := ite_F h q8
        refine sw_aload_n X 0 rfl rfl dX6_ways_26 ?_
        refine sw_getI X sw_cl6 (show sw_kd 63 = 6 from rfl) (k := 1) rfl (by decide) wf_X6_136 dX6_ways_27 ?_
        refine sw_if_ne X 36 (by decide) dX6_ways_30 (fun q9 => ?_) (fun q9 => ?_)
        · have h := ite_F h q9
          refine sw_aload_n X 0 rfl rfl dX6_ways_36 ?_
          refine sw_aload_n X 0 rfl rfl dX6_ways_37 ?_
          refine sw_iload_n X 1 rfl rfl dX6_ways_38 ?_
          refine sw_iload_n X 2 rfl rfl dX6_ways_39 ?_
          obtain ⟨r11, s12, c10, h⟩ := bd_E h
          refine sw_callVI X (o := 63) (As := (fun g => [.int a1, .int a2])) sw_cl6 (show sw_kd 63 = 6 from rfl) ws_X6_leastBread (by omega) (c_X6_leastBread F a1 a2 st c10) rfl rfl (Nat.le_of_ble_eq_true rfl) wm_X6_240 dX6_ways_40 ?_
          refine sw_putI X sw_cl6 (show sw_kd 63 = 6 from rfl) (k := 9) rfl (by decide) rfl rfl wf_X6_58 dX6_ways_43 (fun s13 es13 => ?_)
          have h := nm_E h es13
          refine sw_iconst X (v := 1) (by decide) dX6_ways_46 ?_
          exact sw_iret X hr hlk dX6_ways_47 h
        · have h := ite_T h q9
          refine sw_bipush X (v := (-4)) (by decide) dX6_ways_33 ?_
          exact sw_iret X hr hlk dX6_ways_35 h
      · have h := ite_T h q8
        refine sw_sub [] rfl ?_
        exact J4  h
theorem dX6_bread_0 : decode cX6_bread 0 = .ok (.iload_n 1, 1) := by decide +kernel
theorem dX6_bread_1 : decode cX6_bread 1 = .ok (.i2l, 1) := by decide +kernel
theorem dX6_bread_2 : decode cX6_bread 2 = .ok (.lconst 0, 1) := by decide +kernel
theorem dX6_bread_3 : decode cX6_bread 3 = .ok (.ldc2_w 61, 3) := by decide +kernel
theorem dX6_bread_6 : decode cX6_bread 6 = .ok (.invokestatic 63, 3) := by decide +kernel
theorem dX6_bread_9 : decode cX6_bread 9 = .ok (.ifCond .eq 22, 3) := by decide +kernel
theorem dX6_bread_12 : decode cX6_bread 12 = .ok (.iload_n 2, 1) := by decide +kernel
theorem dX6_bread_13 : decode cX6_bread 13 = .ok (.i2l, 1) := by decide +kernel
theorem dX6_bread_14 : decode cX6_bread 14 = .ok (.lconst 0, 1) := by decide +kernel
theorem dX6_bread_15 : decode cX6_bread 15 = .ok (.ldc2_w 238, 3) := by decide +kernel
theorem dX6_bread_18 : decode cX6_bread 18 = .ok (.invokestatic 63, 3) := by decide +kernel
theorem dX6_bread_21 : decode cX6_bread 21 = .ok (.ifCond .eq 10, 3) := by decide +kernel
theorem dX6_bread_24 : decode cX6_bread 24 = .ok (.iload_n 3, 1) := by decide +kernel
theorem dX6_bread_25 : decode cX6_bread 25 = .ok (.invokestatic 69, 3) := by decide +kernel
theorem dX6_bread_28 : decode cX6_bread 28 = .ok (.ifCond .ne 5, 3) := by decide +kernel
theorem dX6_bread_31 : decode cX6_bread 31 = .ok (.iconst (-1), 1) := by decide +kernel
theorem dX6_bread_32 : decode cX6_bread 32 = .ok (.ireturn, 1) := by decide +kernel
theorem dX6_bread_33 : decode cX6_bread 33 = .ok (.aload_n 0, 1) := by decide +kernel
theorem dX6_bread_34 : decode cX6_bread 34 = .ok (.getfield 136, 3) := by decide +kernel
theorem dX6_bread_37 : decode cX6_bread 37 = .ok (.ifCond .ne 6, 3) := by decide +kernel
theorem dX6_bread_40 : decode cX6_bread 40 = .ok (.bipush (-4), 2) := by decide +kernel
theorem dX6_bread_42 : decode cX6_bread 42 = .ok (.ireturn, 1) := by decide +kernel
theorem dX6_bread_43 : decode cX6_bread 43 = .ok (.aload_n 0, 1) := by decide +kernel
theorem dX6_bread_44 : decode cX6_bread 44 = .ok (.getfield 229, 3) := by decide +kernel
theorem dX6_bread_47 : decode cX6_bread 47 = .ok (.lstore 4, 2) := by decide +kernel
theorem dX6_bread_49 : decode cX6_bread 49 = .ok (.aload_n 0, 1) := by decide +kernel
theorem dX6_bread_50 : decode cX6_bread 50 = .ok (.getfield 34, 3) := by decide +kernel
theorem dX6_bread_53 : decode cX6_bread 53 = .ok (.lstore 6, 2) := by decide +kernel
theorem dX6_bread_55 : decode cX6_bread 55 = .ok (.aload_n 0, 1) := by decide +kernel
theorem dX6_bread_56 : decode cX6_bread 56 = .ok (.iload_n 1, 1) := by decide +kernel
theorem dX6_bread_57 : decode cX6_bread 57 = .ok (.iload_n 2, 1) := by decide +kernel
theorem dX6_bread_58 : decode cX6_bread 58 = .ok (.invokevirtual 240, 3) := by decide +kernel
theorem dX6_bread_61 : decode cX6_bread 61 = .ok (.istore 8, 2) := by decide +kernel
theorem dX6_bread_63 : decode cX6_bread 63 = .ok (.aload_n 0, 1) := by decide +kernel
theorem dX6_bread_64 : decode cX6_bread 64 = .ok (.lload 4, 2) := by decide +kernel
theorem dX6_bread_66 : decode cX6_bread 66 = .ok (.putfield 229, 3) := by decide +kernel
theorem dX6_bread_69 : decode cX6_bread 69 = .ok (.aload_n 0, 1) := by decide +kernel
theorem dX6_bread_70 : decode cX6_bread 70 = .ok (.lload 6, 2) := by decide +kernel
theorem dX6_bread_72 : decode cX6_bread 72 = .ok (.putfield 34, 3) := by decide +kernel
theorem dX6_bread_75 : decode cX6_bread 75 = .ok (.iload 8, 2) := by decide +kernel
theorem dX6_bread_77 : decode cX6_bread 77 = .ok (.bipush (-9), 2) := by decide +kernel
theorem dX6_bread_79 : decode cX6_bread 79 = .ok (.if_icmp .ne 6, 3) := by decide +kernel
theorem dX6_bread_82 : decode cX6_bread 82 = .ok (.bipush (-9), 2) := by decide +kernel
theorem dX6_bread_84 : decode cX6_bread 84 = .ok (.ireturn, 1) := by decide +kernel
theorem dX6_bread_85 : decode cX6_bread 85 = .ok (.aload_n 0, 1) := by decide +kernel
theorem dX6_bread_86 : decode cX6_bread 86 = .ok (.iload_n 3, 1) := by decide +kernel
theorem dX6_bread_87 : decode cX6_bread 87 = .ok (.iload_n 1, 1) := by decide +kernel
theorem dX6_bread_88 : decode cX6_bread 88 = .ok (.invokevirtual 77, 3) := by decide +kernel
theorem dX6_bread_91 : decode cX6_bread 91 = .ok (.iconst 0, 1) := by decide +kernel
theorem dX6_bread_92 : decode cX6_bread 92 = .ok (.istore 9, 2) := by decide +kernel
theorem dX6_bread_94 : decode cX6_bread 94 = .ok (.iload 9, 2) := by decide +kernel
theorem dX6_bread_96 : decode cX6_bread 96 = .ok (.iload_n 1, 1) := by decide +kernel
theorem dX6_bread_97 : decode cX6_bread 97 = .ok (.if_icmp .ge 32, 3) := by decide +kernel
theorem dX6_bread_100 : decode cX6_bread 100 = .ok (.aload_n 0, 1) := by decide +kernel
theorem dX6_bread_101 : decode cX6_bread 101 = .ok (.getfield 25, 3) := by decide +kernel
theorem dX6_bread_104 : decode cX6_bread 104 = .ok (.bipush 40, 2) := by decide +kernel
theorem dX6_bread_106 : decode cX6_bread 106 = .ok (.iload_n 3, 1) := by decide +kernel
theorem dX6_bread_107 : decode cX6_bread 107 = .ok (.imul, 1) := by decide +kernel
theorem dX6_bread_108 : decode cX6_bread 108 = .ok (.iload 9, 2) := by decide +kernel
theorem dX6_bread_110 : decode cX6_bread 110 = .ok (.iadd, 1) := by decide +kernel
theorem dX6_bread_111 : decode cX6_bread 111 = .ok (.aload_n 0, 1) := by decide +kernel
theorem dX6_bread_112 : decode cX6_bread 112 = .ok (.aload_n 0, 1) := by decide +kernel
theorem dX6_bread_113 : decode cX6_bread 113 = .ok (.getfield 235, 3) := by decide +kernel
theorem dX6_bread_116 : decode cX6_bread 116 = .ok (.iload_n 1, 1) := by decide +kernel
theorem dX6_bread_117 : decode cX6_bread 117 = .ok (.iload 9, 2) := by decide +kernel
theorem dX6_bread_119 : decode cX6_bread 119 = .ok (.invokevirtual 225, 3) := by decide +kernel
theorem dX6_bread_122 : decode cX6_bread 122 = .ok (.iastore, 1) := by decide +kernel
theorem dX6_bread_123 : decode cX6_bread 123 = .ok (.iinc 9 1, 3) := by decide +kernel
theorem dX6_bread_126 : decode cX6_bread 126 = .ok (.goto (-32), 3) := by decide +kernel
theorem dX6_bread_129 : decode cX6_bread 129 = .ok (.iload 8, 2) := by decide +kernel
theorem dX6_bread_131 : decode cX6_bread 131 = .ok (.ireturn, 1) := by decide +kernel
def j_X6_bread (F : Nat) (a1 : Int32) (a2 : Int32) (a3 : Int32) (st : sw_St) : Option (Int32 × sw_St) :=
bo (j_X6_in F ((a1 : Int32).toInt64) 0 5 st) (fun (r2 : Int32) =>
jn (
  some (((-1) : Int32), st)) (fun k3 =>
 (if r2 = 0 then (
  k3)
 else (
  bo (j_X6_in F ((a2 : Int32).toInt64) 0 11 st) (fun (r7 : Int32) =>
  (if r7 = 0 then (
   k3)
  else (
   bo (j_X6_isRow F a3 st) (fun (r10 : Int32) =>
   (if r10 = 0 then (
    k3)
   else (
    (if (st.1 63 1) = 0 then (
     some (((-4) : Int32), st))
    else (
     nm (st.2.1 63 10) (fun (x13 : Int64) =>
     nm (st.2.1 63 11) (fun (x14 : Int64) =>
     bd (j_X6_leastBread F a1 a2 st) (fun (r16 : Int32) (s17 : sw_St) =>
     nm (sw_setJ s17 63 10 x13) (fun (s18 : sw_St) =>
     nm (sw_setJ s18 63 11 x14) (fun (s19 : sw_St) =>
     (if r16 = (-9) then (
      some (((-9) : Int32), s19))
     else (
      bd (j_X6_makeRow F a3 a1 s19) (fun (_ : Unit) (s22 : sw_St) =>
      lz2 (fun f25 (x23 : Int32) (s24 : sw_St) =>
       (if a1 ≤ x23 then (
        some ((r16 : Int32), s24))
       else (
        bo (j_X6_whoOf F (s24.1 63 26) a1 x23 s24) (fun (r29 : Int32) =>
        bnd ((40 * a3) + x23) 240 (
        nm (sw_setC s24 69 (((40 * a3) + x23) : Int32).toNatClampNeg r29) (fun (s31 : sw_St) =>
        nm (x23 + 1) (fun (x32 : Int32) =>
        f25 x32 s31))))))) F 0 s22))))))))))))))))))))
set_option maxHeartbeats 4000000 in
set_option maxRecDepth 100000 in
theorem c_X6_bread (F : Nat) (a1 : Int32) (a2 : Int32) (a3 : Int32) (st : sw_St) {r : Int32} {st1 : sw_St} (h : j_X6_bread F a1 a2 a3 st = some (r, st1)) : sw_CI yX6_bread (.code yX6_bread cX6_bread 10 (some .int)) 7 (fun g => [.ref (g.1 63), .int a1, .int a2, .int a3]) st r st1 := by
  refine sw_entI RX6 (fun g => [(0, .ref (g.1 63)), (1, .int a1), (2, .int a2), (3, .int a3)]) (by decide) rfl (fun _ => Nat.le_of_ble_eq_true rfl) (fun _ => rfl) ?_
  intro p l e s m args below meth c g X hr hlk
  unfold j_X6_bread at h
  refine sw_iload_n X 1 rfl rfl dX6_bread_0 ?_
  refine sw_i2l X dX6_bread_1 ?_
  refine sw_lconst X (v := 0) (by decide) dX6_bread_2 ?_
  refine sw_ldc2 X (v := 5) wl_X6_61 dX6_bread_3 ?_
  obtain ⟨r2, c1, h⟩ := bo_E h
  refine sw_callSI X (As := (fun g => [.long ((a1 : Int32).toInt64), .long 0, .long 5])) ws_X6_in (by omega) (c_X6_in F ((a1 : Int32).toInt64) 0 5 st c1) rfl rfl (Nat.le_of_ble_eq_true rfl) wm_X6_63 dX6_bread_6 ?_
  refine jn0_E (sw_V p l e 7 s m args below meth c g (sw_A g s.heap.size) (sw_QI below g args s r st1) 10 31 [] [] st) h (fun h => ?_) (fun k3 J4 h => ?_)
  · refine sw_iconst X (v := (-1)) (by decide) dX6_bread_31 ?_
    exact sw_iret X hr hlk dX6_bread_32 h
  · refine sw_if_eq X 31 (by decide) dX6_bread_9 (fun q5 => ?_) (fun q5 => ?_)
    · have h := ite_T h q5
      refine sw_sub [] rfl ?_
      exact J4  h
    · have h := ite_F h q5
      refine sw_iload_n X 2 rfl rfl dX6_bread_12 ?_
      refine sw_i2l X dX6_bread_13 ?_
      refine sw_lconst X (v := 0) (by decide) dX6_bread_14 ?_
      refine sw_ldc2 X (v := 11) wl_X6_238 dX6_bread_15 ?_
      obtain ⟨r7, c6, h⟩ := bo_E h
      refine sw_callSI X (As := (fun g => [.long ((a2 : Int32).toInt64), .long 0, .long 11])) ws_X6_in (by omega) (c_X6_in F ((a2 : Int32).toInt64) 0 11 st c6) rfl rfl (Nat.le_of_ble_eq_true rfl) wm_X6_63 dX6_bread_18 ?_
      refine sw_if_eq X 31 (by decide) dX6_bread_21 (fun q8 => ?_) (fun q8 => ?_)
      · have h := ite_T h q8
        refine sw_sub [] rfl ?_
        exact J4  h
      · have h := ite_F h q8
        refine sw_iload_n X 3 rfl rfl dX6_bread_24 ?_
        obtain ⟨r10, c9, h⟩ := bo_E h
        refine sw_callSI X (As := (fun g => [.int a3])) ws_X6_isRow (by omega) (c_X6_isRow F a3 st c9) rfl rfl (Nat.le_of_ble_eq_true rfl) wm_X6_69 dX6_bread_25 ?_
        refine sw_if_ne X 33 (by decide) dX6_bread_28 (fun q11 => ?_) (fun q11 => ?_)
        · have h := ite_F h q11
          refine sw_aload_n X 0 rfl rfl dX6_bread_33 ?_
          refine sw_getI X sw_cl6 (show sw_kd 63 = 6 from rfl) (k := 1) rfl (by decide) wf_X6_136 dX6_bread_34 ?_
          refine sw_if_ne X 43 (by decide) dX6_bread_37 (fun q12 => ?_) (fun q12 => ?_)
          · have h := ite_F h q12
            refine sw_aload_n X 0 rfl rfl dX6_bread_43 ?_
            refine sw_getL X sw_cl6 (show sw_kd 63 = 6 from rfl) (k := 10) rfl (by decide) wf_X6_229 dX6_bread_44 ?_
            refine sw_topl (fun x13 ex13 => ?_)
            have h := nm_E h ex13
            refine sw_lstore X [(4, .long x13), (0, .ref (g.1 63)), (1, .int a1), (2, .int a2), (3, .int a3)] (by decide) rfl dX6_bread_47 ?_
            refine sw_aload_n X 1 rfl rfl dX6_bread_49 ?_
            refine sw_getL X sw_cl6 (show sw_kd 63 = 6 from rfl) (k := 11) rfl (by decide) wf_X6_34 dX6_bread_50 ?_
            refine sw_topl (fun x14 ex14 => ?_)
            have h := nm_E h ex14
            refine sw_lstore X [(6, .long x14), (4, .long x13), (0, .ref (g.1 63)), (1, .int a1), (2, .int a2), (3, .int a3)] (by decide) rfl dX6_bread_53 ?_
            refine sw_aload_n X 2 rfl rfl dX6_bread_55 ?_
            refine sw_iload_n X 3 rfl rfl dX6_bread_56 ?_
            refine sw_iload_n X 4 rfl rfl dX6_bread_57 ?_
            obtain ⟨r16, s17, c15, h⟩ := bd_E h
            refine sw_callVI X (o := 63) (As := (fun g => [.int a1, .int a2])) sw_cl6 (show sw_kd 63 = 6 from rfl) ws_X6_leastBread (by omega) (c_X6_leastBread F a1 a2 st c15) rfl rfl (Nat.le_of_ble_eq_true rfl) wm_X6_240 dX6_bread_58 ?_
            refine sw_istore X [(8, .int r16), (6, .long x14), (4, .long x13), (0, .ref (g.1 63)), (1, .int a1), (2, .int a2), (3, .int a3)] (by decide) rfl dX6_bread_61 ?_
            refine sw_aload_n X 3 rfl rfl dX6_bread_63 ?_
            refine sw_lload X 2 rfl dX6_bread_64 ?_
            refine sw_putL X sw_cl6 (show sw_kd 63 = 6 from rfl) (k := 10) rfl (by decide) rfl rfl wf_X6_229 dX6_bread_66 (fun s18 es18 => ?_)
            have h := nm_E h es18
            refine sw_aload_n X 3 rfl rfl dX6_bread_69 ?_
            refine sw_lload X 1 rfl dX6_bread_70 ?_
            refine sw_putL X sw_cl6 (show sw_kd 63 = 6 from rfl) (k := 11) rfl (by decide) rfl rfl wf_X6_34 dX6_bread_72 (fun s19 es19 => ?_)
            have h := nm_E h es19
            refine sw_iload X 0 rfl dX6_bread_75 ?_
            refine sw_bipush X (v := (-9)) (by decide) dX6_bread_77 ?_
            refine sw_icmp_ne X 85 (by decide) dX6_bread_79 (fun q20 => ?_) (fun q20 => ?_)
            · have h := ite_F h q20
              refine sw_aload_n X 3 rfl rfl dX6_bread_85 ?_
              refine sw_iload_n X 6 rfl rfl dX6_bread_86 ?_
              refine sw_iload_n X 4 rfl rfl dX6_bread_87 ?_
              obtain ⟨u33, s22, c21, h⟩ := bd_E h
              refine sw_callVV X (o := 63) (As := (fun g => [.int a3, .int a1])) sw_cl6 (show sw_kd 63 = 6 from rfl) ws_X6_makeRow (by omega) (c_X6_makeRow F a3 a1 s19 c21) rfl rfl (Nat.le_of_ble_eq_true rfl) wm_X6_77 dX6_bread_88 ?_
              refine sw_iconst X (v := 0) (by decide) dX6_bread_91 ?_
              refine sw_istore X [(9, .int 0), (8, .int r16), (6, .long x14), (4, .long x13), (0, .ref (g.1 63)), (1, .int a1), (2, .int a2), (3, .int a3)] (by decide) rfl dX6_bread_92 ?_
              refine sw_sub [4, 5, 7, 1, 0] rfl ?_
              refine lz2_E (fun (x23 : Int32) (s24 : sw_St) => sw_V p l e 7 s m args below meth c g (sw_A g s.heap.size) (sw_QI below g args s r st1) 10 94 [(0, .ref (g.1 63)), (1, .int a1), (3, .int a3), (8, .int r16), (9, .int x23)] [] s24) h (fun f25 ih26 x23 s24 h => ?_)
              refine sw_iload X 4 rfl dX6_bread_94 ?_
              refine sw_iload_n X 1 rfl rfl dX6_bread_96 ?_
              refine sw_icmp_ge X 129 (by decide) dX6_bread_97 (fun q27 => ?_) (fun q27 => ?_)
              · have h := ite_T h q27
                refine sw_iload X 3 rfl dX6_bread_129 ?_
                exact sw_iret X hr hlk dX6_bread_131 h
              · have h := ite_F h q27
                refine sw_aload_n X 0 rfl rfl dX6_bread_100 ?_
                refine sw_getR X sw_cl6 (show sw_kd 63 = 6 from rfl) (k := 6) rfl (by decide) (o1 := 69) rfl wf_X6_25 dX6_bread_101 ?_
                refine sw_bipush X (v := 40) (by decide) dX6_bread_104 ?_
                refine sw_iload_n X 2 rfl rfl dX6_bread_106 ?_
                refine sw_imul X dX6_bread_107 ?_
                refine sw_iload X 4 rfl dX6_bread_108 ?_
                refine sw_iadd X dX6_bread_110 ?_
                refine sw_aload_n X 0 rfl rfl dX6_bread_111 ?_
                refine sw_aload_n X 0 rfl rfl dX6_bread_112 ?_
                refine sw_getI X sw_cl6 (show sw_kd 63 = 6 from rfl) (k := 26) rfl (by decide) wf_X6_235 dX6_bread_113 ?_
                refine sw_iload_n X 1 rfl rfl dX6_bread_116 ?_
                refine sw_iload X 4 rfl dX6_bread_117 ?_
                obtain ⟨r29, c28, h⟩ := bo_E h
                refine sw_callVI X (o := 63) (As := (fun g => [.int (s24.1 63 26), .int a1, .int x23])) sw_cl6 (show sw_kd 63 = 6 from rfl) ws_X6_whoOf (by omega) (c_X6_whoOf F (s24.1 63 26) a1 x23 s24 c28) rfl rfl (Nat.le_of_ble_eq_true rfl) wm_X6_225 dX6_bread_119 ?_
                obtain ⟨q30, h⟩ := bnd_E h
                refine sw_iast X (show sw_kd 69 = 8 from rfl) (n := 240) rfl q30 dX6_bread_122 (fun s31 es31 => ?_)
                have h := nm_E h es31
                obtain ⟨x32, ex32⟩ : ∃ y : Int32, y = x23 + 1 := ⟨_, rfl⟩
                have h := nm_E h ex32
                refine sw_iinc X 4 x32 [(9, .int x32), (0, .ref (g.1 63)), (1, .int a1), (3, .int a3), (8, .int r16)] rfl (by rw [ex32]; rfl) (by decide) rfl dX6_bread_123 ?_
                refine sw_goto X 94 (by decide) dX6_bread_126 ?_
                refine sw_sub [1, 2, 3, 4, 0] rfl ?_
                exact ih26 _ _ h
            · have h := ite_T h q20
              refine sw_bipush X (v := (-9)) (by decide) dX6_bread_82 ?_
              exact sw_iret X hr hlk dX6_bread_84 h
          · have h := ite_T h q12
            refine sw_bipush X (v := (-4)) (by decide) dX6_bread_40 ?_
            exact sw_iret X hr hlk dX6_bread_42 h
        · have h := ite_T h q11
          refine sw_sub [] rfl ?_
          exact J4  h
theorem dX6_goes_0 : decode cX6_goes 0 = .ok (.iload_n 1, 1) := by decide +kernel
theorem dX6_goes_1 : decode cX6_goes 1 = .ok (.i2l, 1) := by decide +kernel
theorem dX6_goes_2 : decode cX6_goes 2 = .ok (.lconst 0, 1) := by decide +kernel
theorem dX6_goes_3 : decode cX6_goes 3 = .ok (.ldc2_w 61, 3) := by decide +kernel
theorem dX6_goes_6 : decode cX6_goes 6 = .ok (.invokestatic 63, 3) := by decide +kernel
theorem dX6_goes_9 : decode cX6_goes 9 = .ok (.ifCond .ne 5, 3) := by decide +kernel
theorem dX6_goes_12 : decode cX6_goes 12 = .ok (.iconst (-1), 1) := by decide +kernel
theorem dX6_goes_13 : decode cX6_goes 13 = .ok (.ireturn, 1) := by decide +kernel
theorem dX6_goes_14 : decode cX6_goes 14 = .ok (.aload_n 0, 1) := by decide +kernel
theorem dX6_goes_15 : decode cX6_goes 15 = .ok (.getfield 136, 3) := by decide +kernel
theorem dX6_goes_18 : decode cX6_goes 18 = .ok (.ifCond .ne 6, 3) := by decide +kernel
theorem dX6_goes_21 : decode cX6_goes 21 = .ok (.bipush (-4), 2) := by decide +kernel
theorem dX6_goes_23 : decode cX6_goes 23 = .ok (.ireturn, 1) := by decide +kernel
theorem dX6_goes_24 : decode cX6_goes 24 = .ok (.iconst (-1), 1) := by decide +kernel
theorem dX6_goes_25 : decode cX6_goes 25 = .ok (.istore_n 2, 1) := by decide +kernel
theorem dX6_goes_26 : decode cX6_goes 26 = .ok (.iconst 0, 1) := by decide +kernel
theorem dX6_goes_27 : decode cX6_goes 27 = .ok (.istore_n 3, 1) := by decide +kernel
theorem dX6_goes_28 : decode cX6_goes 28 = .ok (.iload_n 3, 1) := by decide +kernel
theorem dX6_goes_29 : decode cX6_goes 29 = .ok (.aload_n 0, 1) := by decide +kernel
theorem dX6_goes_30 : decode cX6_goes 30 = .ok (.iload_n 1, 1) := by decide +kernel
theorem dX6_goes_31 : decode cX6_goes 31 = .ok (.invokevirtual 213, 3) := by decide +kernel
theorem dX6_goes_34 : decode cX6_goes 34 = .ok (.if_icmp .ge 77, 3) := by decide +kernel
theorem dX6_goes_37 : decode cX6_goes 37 = .ok (.aload_n 0, 1) := by decide +kernel
theorem dX6_goes_38 : decode cX6_goes 38 = .ok (.iload_n 3, 1) := by decide +kernel
theorem dX6_goes_39 : decode cX6_goes 39 = .ok (.iload_n 1, 1) := by decide +kernel
theorem dX6_goes_40 : decode cX6_goes 40 = .ok (.invokevirtual 232, 3) := by decide +kernel
theorem dX6_goes_43 : decode cX6_goes 43 = .ok (.ifCond .eq 62, 3) := by decide +kernel
theorem dX6_goes_46 : decode cX6_goes 46 = .ok (.aload_n 0, 1) := by decide +kernel
theorem dX6_goes_47 : decode cX6_goes 47 = .ok (.aload_n 0, 1) := by decide +kernel
theorem dX6_goes_48 : decode cX6_goes 48 = .ok (.getfield 222, 3) := by decide +kernel
theorem dX6_goes_51 : decode cX6_goes 51 = .ok (.iload_n 2, 1) := by decide +kernel
theorem dX6_goes_52 : decode cX6_goes 52 = .ok (.if_icmp .gt 22, 3) := by decide +kernel
theorem dX6_goes_55 : decode cX6_goes 55 = .ok (.aload_n 0, 1) := by decide +kernel
theorem dX6_goes_56 : decode cX6_goes 56 = .ok (.getfield 222, 3) := by decide +kernel
theorem dX6_goes_59 : decode cX6_goes 59 = .ok (.iload_n 2, 1) := by decide +kernel
theorem dX6_goes_60 : decode cX6_goes 60 = .ok (.if_icmp .ne 21, 3) := by decide +kernel
theorem dX6_goes_63 : decode cX6_goes 63 = .ok (.aload_n 0, 1) := by decide +kernel
theorem dX6_goes_64 : decode cX6_goes 64 = .ok (.getfield 219, 3) := by decide +kernel
theorem dX6_goes_67 : decode cX6_goes 67 = .ok (.aload_n 0, 1) := by decide +kernel
theorem dX6_goes_68 : decode cX6_goes 68 = .ok (.getfield 58, 3) := by decide +kernel
theorem dX6_goes_71 : decode cX6_goes 71 = .ok (.if_icmp .ge 10, 3) := by decide +kernel
theorem dX6_goes_74 : decode cX6_goes 74 = .ok (.aload_n 0, 1) := by decide +kernel
theorem dX6_goes_75 : decode cX6_goes 75 = .ok (.getfield 219, 3) := by decide +kernel
theorem dX6_goes_78 : decode cX6_goes 78 = .ok (.goto 7, 3) := by decide +kernel
theorem dX6_goes_81 : decode cX6_goes 81 = .ok (.aload_n 0, 1) := by decide +kernel
theorem dX6_goes_82 : decode cX6_goes 82 = .ok (.getfield 58, 3) := by decide +kernel
theorem dX6_goes_85 : decode cX6_goes 85 = .ok (.putfield 58, 3) := by decide +kernel
theorem dX6_goes_88 : decode cX6_goes 88 = .ok (.aload_n 0, 1) := by decide +kernel
theorem dX6_goes_89 : decode cX6_goes 89 = .ok (.getfield 222, 3) := by decide +kernel
theorem dX6_goes_92 : decode cX6_goes 92 = .ok (.iload_n 2, 1) := by decide +kernel
theorem dX6_goes_93 : decode cX6_goes 93 = .ok (.if_icmp .le 10, 3) := by decide +kernel
theorem dX6_goes_96 : decode cX6_goes 96 = .ok (.aload_n 0, 1) := by decide +kernel
theorem dX6_goes_97 : decode cX6_goes 97 = .ok (.getfield 222, 3) := by decide +kernel
theorem dX6_goes_100 : decode cX6_goes 100 = .ok (.goto 4, 3) := by decide +kernel
theorem dX6_goes_103 : decode cX6_goes 103 = .ok (.iload_n 2, 1) := by decide +kernel
theorem dX6_goes_104 : decode cX6_goes 104 = .ok (.istore_n 2, 1) := by decide +kernel
theorem dX6_goes_105 : decode cX6_goes 105 = .ok (.iinc 3 1, 3) := by decide +kernel
theorem dX6_goes_108 : decode cX6_goes 108 = .ok (.goto (-80), 3) := by decide +kernel
theorem dX6_goes_111 : decode cX6_goes 111 = .ok (.iload_n 2, 1) := by decide +kernel
theorem dX6_goes_112 : decode cX6_goes 112 = .ok (.ireturn, 1) := by decide +kernel
def j_X6_goes (F : Nat) (a1 : Int32) (st : sw_St) : Option (Int32 × sw_St) :=
bo (j_X6_in F ((a1 : Int32).toInt64) 0 5 st) (fun (r2 : Int32) =>
(if r2 = 0 then (
 some (((-1) : Int32), st))
else (
 (if (st.1 63 1) = 0 then (
  some (((-4) : Int32), st))
 else (
  lz3 (fun f8 (x5 : Int32) (x6 : Int32) (s7 : sw_St) =>
   bo (j_X6_power F a1 s7) (fun (r11 : Int32) =>
   (if r11 ≤ x6 then (
    some ((x5 : Int32), s7))
   else (
    bd (j_X6_isLetting F x6 a1 s7) (fun (r14 : Int32) (s15 : sw_St) =>
    jn (fun (x16 : Int32) (s17 : sw_St) => 
      nm (x6 + 1) (fun (x20 : Int32) =>
      f8 x16 x20 s17)) (fun k18 =>
     (if r14 = 0 then (
      k18 x5 s15)
     else (
      jn (fun (x22 : Int32) => 
        nm (sw_setC s15 63 9 x22) (fun (s25 : sw_St) =>
        jn (fun (x26 : Int32) => 
          k18 x26 s25) (fun k27 =>
         (if (s25.1 63 25) ≤ x5 then (
          k27 x5)
         else (
          k27 (s25.1 63 25)))))) (fun k23 =>
       jn (
         k23 (s15.1 63 24)) (fun k30 =>
        (if x5 < (s15.1 63 25) then (
         k30)
        else (
         jn (
           k23 (s15.1 63 9)) (fun k33 =>
          (if (s15.1 63 25) = x5 then (
           (if (s15.1 63 9) ≤ (s15.1 63 24) then (
            k33)
           else (
            k30)))
          else (
           k33))))))))))))))) F (-1) 0 st)))))
set_option maxHeartbeats 4000000 in
set_option maxRecDepth 100000 in
theorem c_X6_goes (F : Nat) (a1 : Int32) (st : sw_St) {r : Int32} {st1 : sw_St} (h : j_X6_goes F a1 st = some (r, st1)) : sw_CI yX6_goes (.code yX6_goes cX6_goes 4 (some .int)) 6 (fun g => [.ref (g.1 63), .int a1]) st r st1 := by
  refine sw_entI RX6 (fun g => [(0, .ref (g.1 63)), (1, .int a1)]) (by decide) rfl (fun _ => Nat.le_of_ble_eq_true rfl) (fun _ => rfl) ?_
  intro p l e s m args below meth c g X hr hlk
  unfold j_X6_goes at h
  refine sw_iload_n X 1 rfl rfl dX6_goes_0 ?_
  refine sw_i2l X dX6_goes_1 ?_
  refine sw_lconst X (v := 0) (by decide) dX6_goes_2 ?_
  refine sw_ldc2 X (v := 5) wl_X6_61 dX6_goes_3 ?_
  obtain ⟨r2, c1, h⟩ := bo_E h
  refine sw_callSI X (As := (fun g => [.long ((a1 : Int32).toInt64), .long 0, .long 5])) ws_X6_in (by omega) (c_X6_in F ((a1 : Int32).toInt64) 0 5 st c1) rfl rfl (Nat.le_of_ble_eq_true rfl) wm_X6_63 dX6_goes_6 ?_
  refine sw_if_ne X 14 (by decide) dX6_goes_9 (fun q3 => ?_) (fun q3 => ?_)
  · have h := ite_F h q3
    refine sw_aload_n X 0 rfl rfl dX6_goes_14 ?_
    refine sw_getI X sw_cl6 (show sw_kd 63 = 6 from rfl) (k := 1) rfl (by decide) wf_X6_136 dX6_goes_15 ?_
    refine sw_if_ne X 24 (by decide) dX6_goes_18 (fun q4 => ?_) (fun q4 => ?_)
    · have h := ite_F h q4
      refine sw_iconst X (v := (-1)) (by decide) dX6_goes_24 ?_
      refine sw_istore_n X [(2, .int (-1)), (0, .ref (g.1 63)), (1, .int a1)] rfl (by decide) rfl dX6_goes_25 ?_
      refine sw_iconst X (v := 0) (by decide) dX6_goes_26 ?_
      refine sw_istore_n X [(3, .int 0), (2, .int (-1)), (0, .ref (g.1 63)), (1, .int a1)] rfl (by decide) rfl dX6_goes_27 ?_
      refine sw_sub [2, 3, 1, 0] rfl ?_
      refine lz3_E (fun (x5 : Int32) (x6 : Int32) (s7 : sw_St) => sw_V p l e 6 s m args below meth c g (sw_A g s.heap.size) (sw_QI below g args s r st1) 4 28 [(0, .ref (g.1 63)), (1, .int a1), (2, .int x5), (3, .int x6)] [] s7) h (fun f8 ih9 x5 x6 s7 h => ?_)
      refine sw_iload_n X 3 rfl rfl dX6_goes_28 ?_
      refine sw_aload_n X 0 rfl rfl dX6_goes_29 ?_
      refine sw_iload_n X 1 rfl rfl dX6_goes_30 ?_
      obtain ⟨r11, c10, h⟩ := bo_E h
      refine sw_callVI X (o := 63) (As := (fun g => [.int a1])) sw_cl6 (show sw_kd 63 = 6 from rfl) ws_X6_power (by omega) (c_X6_power F a1 s7 c10) rfl rfl (Nat.le_of_ble_eq_true rfl) wm_X6_213 dX6_goes_31 ?_
      refine sw_icmp_ge X 111 (by decide) dX6_goes_34 (fun q12 => ?_) (fun q12 => ?_)
      · have h := ite_T h q12
        refine sw_iload_n X 2 rfl rfl dX6_goes_111 ?_
        exact sw_iret X hr hlk dX6_goes_112 h
      · have h := ite_F h q12
        refine sw_aload_n X 0 rfl rfl dX6_goes_37 ?_
        refine sw_iload_n X 3 rfl rfl dX6_goes_38 ?_
        refine sw_iload_n X 1 rfl rfl dX6_goes_39 ?_
        obtain ⟨r14, s15, c13, h⟩ := bd_E h
        refine sw_callVI X (o := 63) (As := (fun g => [.int x6, .int a1])) sw_cl6 (show sw_kd 63 = 6 from rfl) ws_X6_isLetting (by omega) (c_X6_isLetting F x6 a1 s7 c13) rfl rfl (Nat.le_of_ble_eq_true rfl) wm_X6_232 dX6_goes_40 ?_
        refine jn2_E (fun (x16 : Int32) (s17 : sw_St) => sw_V p l e 6 s m args below meth c g (sw_A g s.heap.size) (sw_QI below g args s r st1) 4 105 [(0, .ref (g.1 63)), (1, .int a1), (2, .int x16), (3, .int x6)] [] s17) h (fun x16 s17 h => ?_) (fun k18 J19 h => ?_)
        · obtain ⟨x20, ex20⟩ : ∃ y : Int32, y = x6 + 1 := ⟨_, rfl⟩
          have h := nm_E h ex20
          refine sw_iinc X 3 x20 [(3, .int x20), (0, .ref (g.1 63)), (1, .int a1), (2, .int x16)] rfl (by rw [ex20]; rfl) (by decide) rfl dX6_goes_105 ?_
          refine sw_goto X 28 (by decide) dX6_goes_108 ?_
          refine sw_sub [1, 2, 3, 0] rfl ?_
          exact ih9 _ _ _ h
        · refine sw_if_eq X 105 (by decide) dX6_goes_43 (fun q21 => ?_) (fun q21 => ?_)
          · have h := ite_T h q21
            exact J19 _ _ h
          · have h := ite_F h q21
            refine sw_aload_n X 0 rfl rfl dX6_goes_46 ?_
            refine sw_aload_n X 0 rfl rfl dX6_goes_47 ?_
            refine sw_getI X sw_cl6 (show sw_kd 63 = 6 from rfl) (k := 25) rfl (by decide) wf_X6_222 dX6_goes_48 ?_
            refine sw_iload_n X 2 rfl rfl dX6_goes_51 ?_
            refine jn1_E (fun (x22 : Int32) => sw_V p l e 6 s m args below meth c g (sw_A g s.heap.size) (sw_QI below g args s r st1) 4 85 [(0, .ref (g.1 63)), (1, .int a1), (2, .int x5), (3, .int x6)] [.int x22, .ref (g.1 63)] s15) h (fun x22 h => ?_) (fun k23 J24 h => ?_)
            · refine sw_putI X sw_cl6 (show sw_kd 63 = 6 from rfl) (k := 9) rfl (by decide) rfl rfl wf_X6_58 dX6_goes_85 (fun s25 es25 => ?_)
              have h := nm_E h es25
              refine sw_aload_n X 0 rfl rfl dX6_goes_88 ?_
              refine sw_getI X sw_cl6 (show sw_kd 63 = 6 from rfl) (k := 25) rfl (by decide) wf_X6_222 dX6_goes_89 ?_
              refine sw_iload_n X 2 rfl rfl dX6_goes_92 ?_
              refine jn1_E (fun (x26 : Int32) => sw_V p l e 6 s m args below meth c g (sw_A g s.heap.size) (sw_QI below g args s r st1) 4 104 [(0, .ref (g.1 63)), (1, .int a1), (3, .int x6)] [.int x26] s25) h (fun x26 h => ?_) (fun k27 J28 h => ?_)
              · refine sw_istore_n X [(2, .int x26), (0, .ref (g.1 63)), (1, .int a1), (3, .int x6)] rfl (by decide) rfl dX6_goes_104 ?_
                refine sw_sub [1, 2, 0, 3] rfl ?_
                exact J19 _ _ h
              · refine sw_icmp_le X 103 (by decide) dX6_goes_93 (fun q29 => ?_) (fun q29 => ?_)
                · have h := ite_T h q29
                  refine sw_iload_n X 2 rfl rfl dX6_goes_103 ?_
                  refine sw_sub [0, 1, 3] rfl ?_
                  exact J28 _ h
                · have h := ite_F h q29
                  refine sw_aload_n X 0 rfl rfl dX6_goes_96 ?_
                  refine sw_getI X sw_cl6 (show sw_kd 63 = 6 from rfl) (k := 25) rfl (by decide) wf_X6_222 dX6_goes_97 ?_
                  refine sw_goto X 104 (by decide) dX6_goes_100 ?_
                  refine sw_sub [0, 1, 3] rfl ?_
                  exact J28 _ h
            · refine jn0_E (sw_V p l e 6 s m args below meth c g (sw_A g s.heap.size) (sw_QI below g args s r st1) 4 74 [(0, .ref (g.1 63)), (1, .int a1), (2, .int x5), (3, .int x6)] [.ref (g.1 63)] s15) h (fun h => ?_) (fun k30 J31 h => ?_)
              · refine sw_aload_n X 0 rfl rfl dX6_goes_74 ?_
                refine sw_getI X sw_cl6 (show sw_kd 63 = 6 from rfl) (k := 24) rfl (by decide) wf_X6_219 dX6_goes_75 ?_
                refine sw_goto X 85 (by decide) dX6_goes_78 ?_
                exact J24 _ h
              · refine sw_icmp_gt X 74 (by decide) dX6_goes_52 (fun q32 => ?_) (fun q32 => ?_)
                · have h := ite_T h q32
                  exact J31  h
                · have h := ite_F h q32
                  refine sw_aload_n X 0 rfl rfl dX6_goes_55 ?_
                  refine sw_getI X sw_cl6 (show sw_kd 63 = 6 from rfl) (k := 25) rfl (by decide) wf_X6_222 dX6_goes_56 ?_
                  refine sw_iload_n X 2 rfl rfl dX6_goes_59 ?_
                  refine jn0_E (sw_V p l e 6 s m args below meth c g (sw_A g s.heap.size) (sw_QI below g args s r st1) 4 81 [(0, .ref (g.1 63)), (1, .int a1), (2, .int x5), (3, .int x6)] [.ref (g.1 63)] s15) h (fun h => ?_) (fun k33 J34 h => ?_)
                  · refine sw_aload_n X 0 rfl rfl dX6_goes_81 ?_
                    refine sw_getI X sw_cl6 (show sw_kd 63 = 6 from rfl) (k := 9) rfl (by decide) wf_X6_58 dX6_goes_82 ?_
                    exact J24 _ h
                  · refine sw_icmp_ne X 81 (by decide) dX6_goes_60 (fun q35 => ?_) (fun q35 => ?_)
                    · have h := ite_F h q35
                      exact J34  h
                    · have h := ite_T h q35
                      refine sw_aload_n X 0 rfl rfl dX6_goes_63 ?_
                      refine sw_getI X sw_cl6 (show sw_kd 63 = 6 from rfl) (k := 24) rfl (by decide) wf_X6_219 dX6_goes_64 ?_
                      refine sw_aload_n X 0 rfl rfl dX6_goes_67 ?_
                      refine sw_getI X sw_cl6 (show sw_kd 63 = 6 from rfl) (k := 9) rfl (by decide) wf_X6_58 dX6_goes_68 ?_
                      refine sw_icmp_ge X 81 (by decide) dX6_goes_71 (fun q36 => ?_) (fun q36 => ?_)
                      · have h := ite_T h q36
                        exact J34  h
                      · have h := ite_F h q36
                        exact J31  h
    · have h := ite_T h q4
      refine sw_bipush X (v := (-4)) (by decide) dX6_goes_21 ?_
      exact sw_iret X hr hlk dX6_goes_23 h
  · have h := ite_T h q3
    refine sw_iconst X (v := (-1)) (by decide) dX6_goes_12 ?_
    exact sw_iret X hr hlk dX6_goes_13 h
theorem dX6_behind_0 : decode cX6_behind 0 = .ok (.iload_n 1, 1) := by decide +kernel
theorem dX6_behind_1 : decode cX6_behind 1 = .ok (.invokestatic 69, 3) := by decide +kernel
theorem dX6_behind_4 : decode cX6_behind 4 = .ok (.ifCond .ne 5, 3) := by decide +kernel
theorem dX6_behind_7 : decode cX6_behind 7 = .ok (.iconst (-1), 1) := by decide +kernel
theorem dX6_behind_8 : decode cX6_behind 8 = .ok (.ireturn, 1) := by decide +kernel
theorem dX6_behind_9 : decode cX6_behind 9 = .ok (.aload_n 0, 1) := by decide +kernel
theorem dX6_behind_10 : decode cX6_behind 10 = .ok (.iload_n 1, 1) := by decide +kernel
theorem dX6_behind_11 : decode cX6_behind 11 = .ok (.iconst 5, 1) := by decide +kernel
theorem dX6_behind_12 : decode cX6_behind 12 = .ok (.iconst 1, 1) := by decide +kernel
theorem dX6_behind_13 : decode cX6_behind 13 = .ok (.invokevirtual 193, 3) := by decide +kernel
theorem dX6_behind_16 : decode cX6_behind 16 = .ok (.istore_n 2, 1) := by decide +kernel
theorem dX6_behind_17 : decode cX6_behind 17 = .ok (.iload_n 2, 1) := by decide +kernel
theorem dX6_behind_18 : decode cX6_behind 18 = .ok (.ifCond .eq 5, 3) := by decide +kernel
theorem dX6_behind_21 : decode cX6_behind 21 = .ok (.iload_n 2, 1) := by decide +kernel
theorem dX6_behind_22 : decode cX6_behind 22 = .ok (.ireturn, 1) := by decide +kernel
theorem dX6_behind_23 : decode cX6_behind 23 = .ok (.aload_n 0, 1) := by decide +kernel
theorem dX6_behind_24 : decode cX6_behind 24 = .ok (.invokevirtual 187, 3) := by decide +kernel
theorem dX6_behind_27 : decode cX6_behind 27 = .ok (.bipush 40, 2) := by decide +kernel
theorem dX6_behind_29 : decode cX6_behind 29 = .ok (.iload_n 1, 1) := by decide +kernel
theorem dX6_behind_30 : decode cX6_behind 30 = .ok (.imul, 1) := by decide +kernel
theorem dX6_behind_31 : decode cX6_behind 31 = .ok (.istore_n 3, 1) := by decide +kernel
theorem dX6_behind_32 : decode cX6_behind 32 = .ok (.iload_n 3, 1) := by decide +kernel
theorem dX6_behind_33 : decode cX6_behind 33 = .ok (.bipush 40, 2) := by decide +kernel
theorem dX6_behind_35 : decode cX6_behind 35 = .ok (.iload_n 1, 1) := by decide +kernel
theorem dX6_behind_36 : decode cX6_behind 36 = .ok (.imul, 1) := by decide +kernel
theorem dX6_behind_37 : decode cX6_behind 37 = .ok (.aload_n 0, 1) := by decide +kernel
theorem dX6_behind_38 : decode cX6_behind 38 = .ok (.getfield 22, 3) := by decide +kernel
theorem dX6_behind_41 : decode cX6_behind 41 = .ok (.iload_n 1, 1) := by decide +kernel
theorem dX6_behind_42 : decode cX6_behind 42 = .ok (.iaload, 1) := by decide +kernel
theorem dX6_behind_43 : decode cX6_behind 43 = .ok (.iadd, 1) := by decide +kernel
theorem dX6_behind_44 : decode cX6_behind 44 = .ok (.if_icmp .ge 41, 3) := by decide +kernel
theorem dX6_behind_47 : decode cX6_behind 47 = .ok (.aload_n 0, 1) := by decide +kernel
theorem dX6_behind_48 : decode cX6_behind 48 = .ok (.getfield 25, 3) := by decide +kernel
theorem dX6_behind_51 : decode cX6_behind 51 = .ok (.iload_n 3, 1) := by decide +kernel
theorem dX6_behind_52 : decode cX6_behind 52 = .ok (.iaload, 1) := by decide +kernel
theorem dX6_behind_53 : decode cX6_behind 53 = .ok (.bipush (-9), 2) := by decide +kernel
theorem dX6_behind_55 : decode cX6_behind 55 = .ok (.if_icmp .eq 16, 3) := by decide +kernel
theorem dX6_behind_58 : decode cX6_behind 58 = .ok (.aload_n 0, 1) := by decide +kernel
theorem dX6_behind_59 : decode cX6_behind 59 = .ok (.sipush 828, 3) := by decide +kernel
theorem dX6_behind_62 : decode cX6_behind 62 = .ok (.aload_n 0, 1) := by decide +kernel
theorem dX6_behind_63 : decode cX6_behind 63 = .ok (.getfield 25, 3) := by decide +kernel
theorem dX6_behind_66 : decode cX6_behind 66 = .ok (.iload_n 3, 1) := by decide +kernel
theorem dX6_behind_67 : decode cX6_behind 67 = .ok (.iaload, 1) := by decide +kernel
theorem dX6_behind_68 : decode cX6_behind 68 = .ok (.invokevirtual 152, 3) := by decide +kernel
theorem dX6_behind_71 : decode cX6_behind 71 = .ok (.aload_n 0, 1) := by decide +kernel
theorem dX6_behind_72 : decode cX6_behind 72 = .ok (.sipush 828, 3) := by decide +kernel
theorem dX6_behind_75 : decode cX6_behind 75 = .ok (.invokevirtual 176, 3) := by decide +kernel
theorem dX6_behind_78 : decode cX6_behind 78 = .ok (.pop, 1) := by decide +kernel
theorem dX6_behind_79 : decode cX6_behind 79 = .ok (.iinc 3 1, 3) := by decide +kernel
theorem dX6_behind_82 : decode cX6_behind 82 = .ok (.goto (-50), 3) := by decide +kernel
theorem dX6_behind_85 : decode cX6_behind 85 = .ok (.aload_n 0, 1) := by decide +kernel
theorem dX6_behind_86 : decode cX6_behind 86 = .ok (.aload_n 0, 1) := by decide +kernel
theorem dX6_behind_87 : decode cX6_behind 87 = .ok (.getfield 7, 3) := by decide +kernel
theorem dX6_behind_90 : decode cX6_behind 90 = .ok (.sipush 830, 3) := by decide +kernel
theorem dX6_behind_93 : decode cX6_behind 93 = .ok (.iaload, 1) := by decide +kernel
theorem dX6_behind_94 : decode cX6_behind 94 = .ok (.putfield 58, 3) := by decide +kernel
theorem dX6_behind_97 : decode cX6_behind 97 = .ok (.aload_n 0, 1) := by decide +kernel
theorem dX6_behind_98 : decode cX6_behind 98 = .ok (.getfield 7, 3) := by decide +kernel
theorem dX6_behind_101 : decode cX6_behind 101 = .ok (.sipush 829, 3) := by decide +kernel
theorem dX6_behind_104 : decode cX6_behind 104 = .ok (.iaload, 1) := by decide +kernel
theorem dX6_behind_105 : decode cX6_behind 105 = .ok (.ireturn, 1) := by decide +kernel
def j_X6_behind (F : Nat) (a1 : Int32) (st : sw_St) : Option (Int32 × sw_St) :=
bo (j_X6_isRow F a1 st) (fun (r2 : Int32) =>
(if r2 = 0 then (
 some (((-1) : Int32), st))
else (
 bd (j_X6_noRow F a1 5 1 st) (fun (r5 : Int32) (s6 : sw_St) =>
 (if r5 = 0 then (
  bd (j_X6_layTried F s6) (fun (_ : Unit) (s9 : sw_St) =>
  nm (40 * a1) (fun (x10 : Int32) =>
  lz2 (fun f13 (x11 : Int32) (s12 : sw_St) =>
   bnd a1 6 (
   (if ((40 * a1) + (s12.1 68 (a1 : Int32).toNatClampNeg)) ≤ x11 then (
    nm (sw_setC s12 63 9 (s12.1 64 830)) (fun (s18 : sw_St) =>
    some ((s18.1 64 829 : Int32), s18)))
   else (
    bnd x11 240 (
    jn (fun (s21 : sw_St) => 
      bd (j_X6_pass F 828 s21) (fun (r25 : Int32) (s26 : sw_St) =>
      nm (x11 + 1) (fun (x27 : Int32) =>
      f13 x27 s26))) (fun k22 =>
     (if (s12.1 69 (x11 : Int32).toNatClampNeg) = (-9) then (
      k22 s12)
     else (
      bnd x11 240 (
      bd (j_X6_comesIn F 828 (s12.1 69 (x11 : Int32).toNatClampNeg) s12) (fun (_ : Unit) (s31 : sw_St) =>
      k22 s31)))))))))) F x10 s9)))
 else (
  some ((r5 : Int32), s6)))))))
set_option maxHeartbeats 4000000 in
set_option maxRecDepth 100000 in
theorem c_X6_behind (F : Nat) (a1 : Int32) (st : sw_St) {r : Int32} {st1 : sw_St} (h : j_X6_behind F a1 st = some (r, st1)) : sw_CI yX6_behind (.code yX6_behind cX6_behind 4 (some .int)) 5 (fun g => [.ref (g.1 63), .int a1]) st r st1 := by
  refine sw_entI RX6 (fun g => [(0, .ref (g.1 63)), (1, .int a1)]) (by decide) rfl (fun _ => Nat.le_of_ble_eq_true rfl) (fun _ => rfl) ?_
  intro p l e s m args below meth c g X hr hlk
  unfold j_X6_behind at h
  refine sw_iload_n X 1 rfl rfl dX6_behind_0 ?_
  obtain ⟨r2, c1, h⟩ := bo_E h
  refine sw_callSI X (As := (fun g => [.int a1])) ws_X6_isRow (by omega) (c_X6_isRow F a1 st c1) rfl rfl (Nat.le_of_ble_eq_true rfl) wm_X6_69 dX6_behind_1 ?_
  refine sw_if_ne X 9 (by decide) dX6_behind_4 (fun q3 => ?_) (fun q3 => ?_)
  · have h := ite_F h q3
    refine sw_aload_n X 0 rfl rfl dX6_behind_9 ?_
    refine sw_iload_n X 1 rfl rfl dX6_behind_10 ?_
    refine sw_iconst X (v := 5) (by decide) dX6_behind_11 ?_
    refine sw_iconst X (v := 1) (by decide) dX6_behind_12 ?_
    obtain ⟨r5, s6, c4, h⟩ := bd_E h
    refine sw_callVI X (o := 63) (As := (fun g => [.int a1, .int 5, .int 1])) sw_cl6 (show sw_kd 63 = 6 from rfl) ws_X6_noRow (by omega) (c_X6_noRow F a1 5 1 st c4) rfl rfl (Nat.le_of_ble_eq_true rfl) wm_X6_193 dX6_behind_13 ?_
    refine sw_istore_n X [(2, .int r5), (0, .ref (g.1 63)), (1, .int a1)] rfl (by decide) rfl dX6_behind_16 ?_
    refine sw_iload_n X 0 rfl rfl dX6_behind_17 ?_
    refine sw_if_eq X 23 (by decide) dX6_behind_18 (fun q7 => ?_) (fun q7 => ?_)
    · have h := ite_T h q7
      refine sw_aload_n X 1 rfl rfl dX6_behind_23 ?_
      obtain ⟨u33, s9, c8, h⟩ := bd_E h
      refine sw_callVV X (o := 63) (As := (fun g => [])) sw_cl6 (show sw_kd 63 = 6 from rfl) ws_X6_layTried (by omega) (c_X6_layTried F s6 c8) rfl rfl (Nat.le_of_ble_eq_true rfl) wm_X6_187 dX6_behind_24 ?_
      refine sw_bipush X (v := 40) (by decide) dX6_behind_27 ?_
      refine sw_iload_n X 2 rfl rfl dX6_behind_29 ?_
      refine sw_imul X dX6_behind_30 ?_
      refine sw_topi (fun x10 ex10 => ?_)
      have h := nm_E h ex10
      refine sw_istore_n X [(3, .int x10), (2, .int r5), (0, .ref (g.1 63)), (1, .int a1)] rfl (by decide) rfl dX6_behind_31 ?_
      refine sw_sub [2, 3, 0] rfl ?_
      refine lz2_E (fun (x11 : Int32) (s12 : sw_St) => sw_V p l e 5 s m args below meth c g (sw_A g s.heap.size) (sw_QI below g args s r st1) 4 32 [(0, .ref (g.1 63)), (1, .int a1), (3, .int x11)] [] s12) h (fun f13 ih14 x11 s12 h => ?_)
      refine sw_iload_n X 2 rfl rfl dX6_behind_32 ?_
      refine sw_bipush X (v := 40) (by decide) dX6_behind_33 ?_
      refine sw_iload_n X 1 rfl rfl dX6_behind_35 ?_
      refine sw_imul X dX6_behind_36 ?_
      refine sw_aload_n X 0 rfl rfl dX6_behind_37 ?_
      refine sw_getR X sw_cl6 (show sw_kd 63 = 6 from rfl) (k := 5) rfl (by decide) (o1 := 68) rfl wf_X6_22 dX6_behind_38 ?_
      refine sw_iload_n X 1 rfl rfl dX6_behind_41 ?_
      obtain ⟨q15, h⟩ := bnd_E h
      refine sw_iald X (show sw_kd 68 = 8 from rfl) (n := 6) rfl q15 dX6_behind_42 ?_
      refine sw_iadd X dX6_behind_43 ?_
      refine sw_icmp_ge X 85 (by decide) dX6_behind_44 (fun q16 => ?_) (fun q16 => ?_)
      · have h := ite_T h q16
        refine sw_aload_n X 0 rfl rfl dX6_behind_85 ?_
        refine sw_aload_n X 0 rfl rfl dX6_behind_86 ?_
        refine sw_getR X sw_cl6 (show sw_kd 63 = 6 from rfl) (k := 0) rfl (by decide) (o1 := 64) rfl wf_X6_7 dX6_behind_87 ?_
        refine sw_sipush X (v := 830) (by decide) dX6_behind_90 ?_
        refine sw_iald X (show sw_kd 64 = 8 from rfl) (n := 835) rfl (i := 830) (by unfold vp_in; decide) dX6_behind_93 ?_
        refine sw_putI X sw_cl6 (show sw_kd 63 = 6 from rfl) (k := 9) rfl (by decide) rfl rfl wf_X6_58 dX6_behind_94 (fun s18 es18 => ?_)
        have h := nm_E h es18
        refine sw_aload_n X 0 rfl rfl dX6_behind_97 ?_
        refine sw_getR X sw_cl6 (show sw_kd 63 = 6 from rfl) (k := 0) rfl (by decide) (o1 := 64) rfl wf_X6_7 dX6_behind_98 ?_
        refine sw_sipush X (v := 829) (by decide) dX6_behind_101 ?_
        refine sw_iald X (show sw_kd 64 = 8 from rfl) (n := 835) rfl (i := 829) (by unfold vp_in; decide) dX6_behind_104 ?_
        exact sw_iret X hr hlk dX6_behind_105 h
      · have h := ite_F h q16
        refine sw_aload_n X 0 rfl rfl dX6_behind_47 ?_
        refine sw_getR X sw_cl6 (show sw_kd 63 = 6 from rfl) (k := 6) rfl (by decide) (o1 := 69) rfl wf_X6_25 dX6_behind_48 ?_
        refine sw_iload_n X 2 rfl rfl dX6_behind_51 ?_
        obtain ⟨q20, h⟩ := bnd_E h
        refine sw_iald X (show sw_kd 69 = 8 from rfl) (n := 240) rfl q20 dX6_behind_52 ?_
        refine sw_bipush X (v := (-9)) (by decide) dX6_behind_53 ?_
        refine jn1_E (fun (s21 : sw_St) => sw_V p l e 5 s m args below meth c g (sw_A g s.heap.size) (sw_QI below g args s r st1) 4 71 [(0, .ref (g.1 63)), (1, .int a1), (3, .int x11)] [] s21) h (fun s21 h => ?_) (fun k22 J23 h => ?_)
        · refine sw_aload_n X 0 rfl rfl dX6_behind_71 ?_
          refine sw_sipush X (v := 828) (by decide) dX6_behind_72 ?_
          obtain ⟨r25, s26, c24, h⟩ := bd_E h
          refine sw_callVI X (o := 63) (As := (fun g => [.int 828])) sw_cl6 (show sw_kd 63 = 6 from rfl) ws_X6_pass (by omega) (c_X6_pass F 828 s21 c24) rfl rfl (Nat.le_of_ble_eq_true rfl) wm_X6_176 dX6_behind_75 ?_
          refine sw_pop X rfl dX6_behind_78 ?_
          obtain ⟨x27, ex27⟩ : ∃ y : Int32, y = x11 + 1 := ⟨_, rfl⟩
          have h := nm_E h ex27
          refine sw_iinc X 2 x27 [(3, .int x27), (0, .ref (g.1 63)), (1, .int a1)] rfl (by rw [ex27]; rfl) (by decide) rfl dX6_behind_79 ?_
          refine sw_goto X 32 (by decide) dX6_behind_82 ?_
          refine sw_sub [1, 2, 0] rfl ?_
          exact ih14 _ _ h
        · refine sw_icmp_eq X 71 (by decide) dX6_behind_55 (fun q28 => ?_) (fun q28 => ?_)
          · have h := ite_T h q28
            exact J23 _ h
          · have h := ite_F h q28
            refine sw_aload_n X 0 rfl rfl dX6_behind_58 ?_
            refine sw_sipush X (v := 828) (by decide) dX6_behind_59 ?_
            refine sw_aload_n X 0 rfl rfl dX6_behind_62 ?_
            refine sw_getR X sw_cl6 (show sw_kd 63 = 6 from rfl) (k := 6) rfl (by decide) (o1 := 69) rfl wf_X6_25 dX6_behind_63 ?_
            refine sw_iload_n X 2 rfl rfl dX6_behind_66 ?_
            obtain ⟨q29, h⟩ := bnd_E h
            refine sw_iald X (show sw_kd 69 = 8 from rfl) (n := 240) rfl q29 dX6_behind_67 ?_
            obtain ⟨u32, s31, c30, h⟩ := bd_E h
            refine sw_callVV X (o := 63) (As := (fun g => [.int 828, .int (s12.1 69 (x11 : Int32).toNatClampNeg)])) sw_cl6 (show sw_kd 63 = 6 from rfl) ws_X6_comesIn (by omega) (c_X6_comesIn F 828 (s12.1 69 (x11 : Int32).toNatClampNeg) s12 c30) rfl rfl (Nat.le_of_ble_eq_true rfl) wm_X6_152 dX6_behind_68 ?_
            exact J23 _ h
    · have h := ite_F h q7
      refine sw_iload_n X 0 rfl rfl dX6_behind_21 ?_
      exact sw_iret X hr hlk dX6_behind_22 h
  · have h := ite_T h q3
    refine sw_iconst X (v := (-1)) (by decide) dX6_behind_7 ?_
    exact sw_iret X hr hlk dX6_behind_8 h
theorem dX6_layFits_0 : decode cX6_layFits 0 = .ok (.iconst 0, 1) := by decide +kernel
theorem dX6_layFits_1 : decode cX6_layFits 1 = .ok (.istore_n 2, 1) := by decide +kernel
theorem dX6_layFits_2 : decode cX6_layFits 2 = .ok (.iconst 0, 1) := by decide +kernel
theorem dX6_layFits_3 : decode cX6_layFits 3 = .ok (.istore_n 3, 1) := by decide +kernel
theorem dX6_layFits_4 : decode cX6_layFits 4 = .ok (.iload_n 3, 1) := by decide +kernel
theorem dX6_layFits_5 : decode cX6_layFits 5 = .ok (.bipush 64, 2) := by decide +kernel
theorem dX6_layFits_7 : decode cX6_layFits 7 = .ok (.if_icmp .ge 72, 3) := by decide +kernel
theorem dX6_layFits_10 : decode cX6_layFits 10 = .ok (.aload_n 0, 1) := by decide +kernel
theorem dX6_layFits_11 : decode cX6_layFits 11 = .ok (.getfield 47, 3) := by decide +kernel
theorem dX6_layFits_14 : decode cX6_layFits 14 = .ok (.iload_n 3, 1) := by decide +kernel
theorem dX6_layFits_15 : decode cX6_layFits 15 = .ok (.iconst 0, 1) := by decide +kernel
theorem dX6_layFits_16 : decode cX6_layFits 16 = .ok (.bastore, 1) := by decide +kernel
theorem dX6_layFits_17 : decode cX6_layFits 17 = .ok (.aload_n 0, 1) := by decide +kernel
theorem dX6_layFits_18 : decode cX6_layFits 18 = .ok (.iload_n 3, 1) := by decide +kernel
theorem dX6_layFits_19 : decode cX6_layFits 19 = .ok (.invokevirtual 204, 3) := by decide +kernel
theorem dX6_layFits_22 : decode cX6_layFits 22 = .ok (.ifCond .eq 34, 3) := by decide +kernel
theorem dX6_layFits_25 : decode cX6_layFits 25 = .ok (.aload_n 0, 1) := by decide +kernel
theorem dX6_layFits_26 : decode cX6_layFits 26 = .ok (.invokevirtual 187, 3) := by decide +kernel
theorem dX6_layFits_29 : decode cX6_layFits 29 = .ok (.aload_n 0, 1) := by decide +kernel
theorem dX6_layFits_30 : decode cX6_layFits 30 = .ok (.iload_n 3, 1) := by decide +kernel
theorem dX6_layFits_31 : decode cX6_layFits 31 = .ok (.invokevirtual 197, 3) := by decide +kernel
theorem dX6_layFits_34 : decode cX6_layFits 34 = .ok (.aload_n 0, 1) := by decide +kernel
theorem dX6_layFits_35 : decode cX6_layFits 35 = .ok (.getfield 47, 3) := by decide +kernel
theorem dX6_layFits_38 : decode cX6_layFits 38 = .ok (.iload_n 3, 1) := by decide +kernel
theorem dX6_layFits_39 : decode cX6_layFits 39 = .ok (.aload_n 0, 1) := by decide +kernel
theorem dX6_layFits_40 : decode cX6_layFits 40 = .ok (.sipush 828, 3) := by decide +kernel
theorem dX6_layFits_43 : decode cX6_layFits 43 = .ok (.invokevirtual 176, 3) := by decide +kernel
theorem dX6_layFits_46 : decode cX6_layFits 46 = .ok (.iload_n 1, 1) := by decide +kernel
theorem dX6_layFits_47 : decode cX6_layFits 47 = .ok (.if_icmp .ne 7, 3) := by decide +kernel
theorem dX6_layFits_50 : decode cX6_layFits 50 = .ok (.iconst 1, 1) := by decide +kernel
theorem dX6_layFits_51 : decode cX6_layFits 51 = .ok (.goto 4, 3) := by decide +kernel
theorem dX6_layFits_54 : decode cX6_layFits 54 = .ok (.iconst 0, 1) := by decide +kernel
theorem dX6_layFits_55 : decode cX6_layFits 55 = .ok (.bastore, 1) := by decide +kernel
theorem dX6_layFits_56 : decode cX6_layFits 56 = .ok (.iload_n 2, 1) := by decide +kernel
theorem dX6_layFits_57 : decode cX6_layFits 57 = .ok (.aload_n 0, 1) := by decide +kernel
theorem dX6_layFits_58 : decode cX6_layFits 58 = .ok (.getfield 47, 3) := by decide +kernel
theorem dX6_layFits_61 : decode cX6_layFits 61 = .ok (.iload_n 3, 1) := by decide +kernel
theorem dX6_layFits_62 : decode cX6_layFits 62 = .ok (.baload, 1) := by decide +kernel
theorem dX6_layFits_63 : decode cX6_layFits 63 = .ok (.ifCond .eq 7, 3) := by decide +kernel
theorem dX6_layFits_66 : decode cX6_layFits 66 = .ok (.iconst 1, 1) := by decide +kernel
theorem dX6_layFits_67 : decode cX6_layFits 67 = .ok (.goto 4, 3) := by decide +kernel
theorem dX6_layFits_70 : decode cX6_layFits 70 = .ok (.iconst 0, 1) := by decide +kernel
theorem dX6_layFits_71 : decode cX6_layFits 71 = .ok (.iadd, 1) := by decide +kernel
theorem dX6_layFits_72 : decode cX6_layFits 72 = .ok (.istore_n 2, 1) := by decide +kernel
theorem dX6_layFits_73 : decode cX6_layFits 73 = .ok (.iinc 3 1, 3) := by decide +kernel
theorem dX6_layFits_76 : decode cX6_layFits 76 = .ok (.goto (-72), 3) := by decide +kernel
theorem dX6_layFits_79 : decode cX6_layFits 79 = .ok (.iload_n 2, 1) := by decide +kernel
theorem dX6_layFits_80 : decode cX6_layFits 80 = .ok (.ireturn, 1) := by decide +kernel
def j_X6_layFits (F : Nat) (a1 : Int32) (st : sw_St) : Option (Int32 × sw_St) :=
lz3 (fun f4 (x1 : Int32) (x2 : Int32) (s3 : sw_St) =>
 (if 64 ≤ x2 then (
  some ((x1 : Int32), s3))
 else (
  bnd x2 64 (
  nm (sw_setC s3 75 (x2 : Int32).toNatClampNeg (vp_nar .boolean 0)) (fun (s8 : sw_St) =>
  bo (j_X6_isOut F x2 s8) (fun (r10 : Int32) =>
  jn (fun (s11 : sw_St) => 
    bnd x2 64 (
    jn (fun (x15 : Int32) => 
      nm (x1 + x15) (fun (x18 : Int32) =>
      nm (x2 + 1) (fun (x19 : Int32) =>
      f4 x18 x19 s11))) (fun k16 =>
     (if (s11.1 75 (x2 : Int32).toNatClampNeg) = 0 then (
      k16 0)
     else (
      k16 1))))) (fun k12 =>
   (if r10 = 0 then (
    k12 s8)
   else (
    bd (j_X6_layTried F s8) (fun (_ : Unit) (s23 : sw_St) =>
    bd (j_X6_comeTried F x2 s23) (fun (_ : Unit) (s25 : sw_St) =>
    bd (j_X6_pass F 828 s25) (fun (r27 : Int32) (s28 : sw_St) =>
    jn (fun (x29 : Int32) => 
      bnd x2 64 (
      nm (sw_setC s28 75 (x2 : Int32).toNatClampNeg (vp_nar .boolean x29)) (fun (s33 : sw_St) =>
      k12 s33))) (fun k30 =>
     (if r27 = a1 then (
      k30 1)
     else (
      k30 0))))))))))))))) F 0 0 st
set_option maxHeartbeats 4000000 in
set_option maxRecDepth 100000 in
theorem c_X6_layFits (F : Nat) (a1 : Int32) (st : sw_St) {r : Int32} {st1 : sw_St} (h : j_X6_layFits F a1 st = some (r, st1)) : sw_CI yX6_layFits (.code yX6_layFits cX6_layFits 4 (some .int)) 6 (fun g => [.ref (g.1 63), .int a1]) st r st1 := by
  refine sw_entI RX6 (fun g => [(0, .ref (g.1 63)), (1, .int a1)]) (by decide) rfl (fun _ => Nat.le_of_ble_eq_true rfl) (fun _ => rfl) ?_
  intro p l e s m args below meth c g X hr hlk
  unfold j_X6_layFits at h
  refine sw_iconst X (v := 0) (by decide) dX6_layFits_0 ?_
  refine sw_istore_n X [(2, .int 0), (0, .ref (g.1 63)), (1, .int a1)] rfl (by decide) rfl dX6_layFits_1 ?_
  refine sw_iconst X (v := 0) (by decide) dX6_layFits_2 ?_
  refine sw_istore_n X [(3, .int 0), (2, .int 0), (0, .ref (g.1 63)), (1, .int a1)] rfl (by decide) rfl dX6_layFits_3 ?_
  refine sw_sub [2, 3, 1, 0] rfl ?_
  refine lz3_E (fun (x1 : Int32) (x2 : Int32) (s3 : sw_St) => sw_V p l e 6 s m args below meth c g (sw_A g s.heap.size) (sw_QI below g args s r st1) 4 4 [(0, .ref (g.1 63)), (1, .int a1), (2, .int x1), (3, .int x2)] [] s3) h (fun f4 ih5 x1 x2 s3 h => ?_)
  refine sw_iload_n X 3 rfl rfl dX6_layFits_4 ?_
  refine sw_bipush X (v := 64) (by decide) dX6_layFits_5 ?_
  refine sw_icmp_ge X 79 (by decide) dX6_layFits_7 (fun q6 => ?_) (fun q6 => ?_)
  · have h := ite_T h q6
    refine sw_iload_n X 2 rfl rfl dX6_layFits_79 ?_
    exact sw_iret X hr hlk dX6_layFits_80 h
  · have h := ite_F h q6
    refine sw_aload_n X 0 rfl rfl dX6_layFits_10 ?_
    refine sw_getR X sw_cl6 (show sw_kd 63 = 6 from rfl) (k := 27) rfl (by decide) (o1 := 75) rfl wf_X6_47 dX6_layFits_11 ?_
    refine sw_iload_n X 3 rfl rfl dX6_layFits_14 ?_
    refine sw_iconst X (v := 0) (by decide) dX6_layFits_15 ?_
    obtain ⟨q7, h⟩ := bnd_E h
    refine sw_zast X (show sw_kd 75 = 9 from rfl) (n := 64) rfl q7 dX6_layFits_16 (fun s8 es8 => ?_)
    have h := nm_E h es8
    refine sw_aload_n X 0 rfl rfl dX6_layFits_17 ?_
    refine sw_iload_n X 3 rfl rfl dX6_layFits_18 ?_
    obtain ⟨r10, c9, h⟩ := bo_E h
    refine sw_callVI X (o := 63) (As := (fun g => [.int x2])) sw_cl6 (show sw_kd 63 = 6 from rfl) ws_X6_isOut (by omega) (c_X6_isOut F x2 s8 c9) rfl rfl (Nat.le_of_ble_eq_true rfl) wm_X6_204 dX6_layFits_19 ?_
    refine jn1_E (fun (s11 : sw_St) => sw_V p l e 6 s m args below meth c g (sw_A g s.heap.size) (sw_QI below g args s r st1) 4 56 [(0, .ref (g.1 63)), (1, .int a1), (2, .int x1), (3, .int x2)] [] s11) h (fun s11 h => ?_) (fun k12 J13 h => ?_)
    · refine sw_iload_n X 2 rfl rfl dX6_layFits_56 ?_
      refine sw_aload_n X 0 rfl rfl dX6_layFits_57 ?_
      refine sw_getR X sw_cl6 (show sw_kd 63 = 6 from rfl) (k := 27) rfl (by decide) (o1 := 75) rfl wf_X6_47 dX6_layFits_58 ?_
      refine sw_iload_n X 3 rfl rfl dX6_layFits_61 ?_
      obtain ⟨q14, h⟩ := bnd_E h
      refine sw_zald X (show sw_kd 75 = 9 from rfl) (n := 64) rfl q14 dX6_layFits_62 ?_
      refine jn1_E (fun (x15 : Int32) => sw_V p l e 6 s m args below meth c g (sw_A g s.heap.size) (sw_QI below g args s r st1) 4 71 [(0, .ref (g.1 63)), (1, .int a1), (3, .int x2)] [.int x15, .int x1] s11) h (fun x15 h => ?_) (fun k16 J17 h => ?_)
      · refine sw_iadd X dX6_layFits_71 ?_
        refine sw_topi (fun x18 ex18 => ?_)
        have h := nm_E h ex18
        refine sw_istore_n X [(2, .int x18), (0, .ref (g.1 63)), (1, .int a1), (3, .int x2)] rfl (by decide) rfl dX6_layFits_72 ?_
        obtain ⟨x19, ex19⟩ : ∃ y : Int32, y = x2 + 1 := ⟨_, rfl⟩
        have h := nm_E h ex19
        refine sw_iinc X 3 x19 [(3, .int x19), (2, .int x18), (0, .ref (g.1 63)), (1, .int a1)] rfl (by rw [ex19]; rfl) (by decide) rfl dX6_layFits_73 ?_
        refine sw_goto X 4 (by decide) dX6_layFits_76 ?_
        refine sw_sub [2, 3, 1, 0] rfl ?_
        exact ih5 _ _ _ h
      · refine sw_if_eq X 70 (by decide) dX6_layFits_63 (fun q20 => ?_) (fun q20 => ?_)
        · have h := ite_T h q20
          refine sw_iconst X (v := 0) (by decide) dX6_layFits_70 ?_
          refine sw_sub [0, 1, 3] rfl ?_
          exact J17 _ h
        · have h := ite_F h q20
          refine sw_iconst X (v := 1) (by decide) dX6_layFits_66 ?_
          refine sw_goto X 71 (by decide) dX6_layFits_67 ?_
          refine sw_sub [0, 1, 3] rfl ?_
          exact J17 _ h
    · refine sw_if_eq X 56 (by decide) dX6_layFits_22 (fun q21 => ?_) (fun q21 => ?_)
      · have h := ite_T h q21
        exact J13 _ h
      · have h := ite_F h q21
        refine sw_aload_n X 0 rfl rfl dX6_layFits_25 ?_
        obtain ⟨u36, s23, c22, h⟩ := bd_E h
        refine sw_callVV X (o := 63) (As := (fun g => [])) sw_cl6 (show sw_kd 63 = 6 from rfl) ws_X6_layTried (by omega) (c_X6_layTried F s8 c22) rfl rfl (Nat.le_of_ble_eq_true rfl) wm_X6_187 dX6_layFits_26 ?_
        refine sw_aload_n X 0 rfl rfl dX6_layFits_29 ?_
        refine sw_iload_n X 3 rfl rfl dX6_layFits_30 ?_
        obtain ⟨u35, s25, c24, h⟩ := bd_E h
        refine sw_callVV X (o := 63) (As := (fun g => [.int x2])) sw_cl6 (show sw_kd 63 = 6 from rfl) ws_X6_comeTried (by omega) (c_X6_comeTried F x2 s23 c24) rfl rfl (Nat.le_of_ble_eq_true rfl) wm_X6_197 dX6_layFits_31 ?_
        refine sw_aload_n X 0 rfl rfl dX6_layFits_34 ?_
        refine sw_getR X sw_cl6 (show sw_kd 63 = 6 from rfl) (k := 27) rfl (by decide) (o1 := 75) rfl wf_X6_47 dX6_layFits_35 ?_
        refine sw_iload_n X 3 rfl rfl dX6_layFits_38 ?_
        refine sw_aload_n X 0 rfl rfl dX6_layFits_39 ?_
        refine sw_sipush X (v := 828) (by decide) dX6_layFits_40 ?_
        obtain ⟨r27, s28, c26, h⟩ := bd_E h
        refine sw_callVI X (o := 63) (As := (fun g => [.int 828])) sw_cl6 (show sw_kd 63 = 6 from rfl) ws_X6_pass (by omega) (c_X6_pass F 828 s25 c26) rfl rfl (Nat.le_of_ble_eq_true rfl) wm_X6_176 dX6_layFits_43 ?_
        refine sw_iload_n X 1 rfl rfl dX6_layFits_46 ?_
        refine jn1_E (fun (x29 : Int32) => sw_V p l e 6 s m args below meth c g (sw_A g s.heap.size) (sw_QI below g args s r st1) 4 55 [(0, .ref (g.1 63)), (1, .int a1), (2, .int x1), (3, .int x2)] [.int x29, .int x2, .ref (g.1 75)] s28) h (fun x29 h => ?_) (fun k30 J31 h => ?_)
        · obtain ⟨q32, h⟩ := bnd_E h
          refine sw_zast X (show sw_kd 75 = 9 from rfl) (n := 64) rfl q32 dX6_layFits_55 (fun s33 es33 => ?_)
          have h := nm_E h es33
          exact J13 _ h
        · refine sw_icmp_ne X 54 (by decide) dX6_layFits_47 (fun q34 => ?_) (fun q34 => ?_)
          · have h := ite_F h q34
            refine sw_iconst X (v := 0) (by decide) dX6_layFits_54 ?_
            exact J31 _ h
          · have h := ite_T h q34
            refine sw_iconst X (v := 1) (by decide) dX6_layFits_50 ?_
            refine sw_goto X 55 (by decide) dX6_layFits_51 ?_
            exact J31 _ h
theorem dX6_fits_0 : decode cX6_fits 0 = .ok (.iload_n 1, 1) := by decide +kernel
theorem dX6_fits_1 : decode cX6_fits 1 = .ok (.i2l, 1) := by decide +kernel
theorem dX6_fits_2 : decode cX6_fits 2 = .ok (.lconst 0, 1) := by decide +kernel
theorem dX6_fits_3 : decode cX6_fits 3 = .ok (.ldc2_w 243, 3) := by decide +kernel
theorem dX6_fits_6 : decode cX6_fits 6 = .ok (.invokestatic 63, 3) := by decide +kernel
theorem dX6_fits_9 : decode cX6_fits 9 = .ok (.ifCond .ne 5, 3) := by decide +kernel
theorem dX6_fits_12 : decode cX6_fits 12 = .ok (.iconst (-1), 1) := by decide +kernel
theorem dX6_fits_13 : decode cX6_fits 13 = .ok (.ireturn, 1) := by decide +kernel
theorem dX6_fits_14 : decode cX6_fits 14 = .ok (.aload_n 0, 1) := by decide +kernel
theorem dX6_fits_15 : decode cX6_fits 15 = .ok (.getfield 136, 3) := by decide +kernel
theorem dX6_fits_18 : decode cX6_fits 18 = .ok (.ifCond .ne 6, 3) := by decide +kernel
theorem dX6_fits_21 : decode cX6_fits 21 = .ok (.bipush (-4), 2) := by decide +kernel
theorem dX6_fits_23 : decode cX6_fits 23 = .ok (.ireturn, 1) := by decide +kernel
theorem dX6_fits_24 : decode cX6_fits 24 = .ok (.aload_n 0, 1) := by decide +kernel
theorem dX6_fits_25 : decode cX6_fits 25 = .ok (.aload_n 0, 1) := by decide +kernel
theorem dX6_fits_26 : decode cX6_fits 26 = .ok (.iload_n 1, 1) := by decide +kernel
theorem dX6_fits_27 : decode cX6_fits 27 = .ok (.invokevirtual 245, 3) := by decide +kernel
theorem dX6_fits_30 : decode cX6_fits 30 = .ok (.i2l, 1) := by decide +kernel
theorem dX6_fits_31 : decode cX6_fits 31 = .ok (.putfield 229, 3) := by decide +kernel
theorem dX6_fits_34 : decode cX6_fits 34 = .ok (.aload_n 0, 1) := by decide +kernel
theorem dX6_fits_35 : decode cX6_fits 35 = .ok (.lconst 1, 1) := by decide +kernel
theorem dX6_fits_36 : decode cX6_fits 36 = .ok (.putfield 34, 3) := by decide +kernel
theorem dX6_fits_39 : decode cX6_fits 39 = .ok (.aload_n 0, 1) := by decide +kernel
theorem dX6_fits_40 : decode cX6_fits 40 = .ok (.bipush (-9), 2) := by decide +kernel
theorem dX6_fits_42 : decode cX6_fits 42 = .ok (.putfield 58, 3) := by decide +kernel
theorem dX6_fits_45 : decode cX6_fits 45 = .ok (.bipush 63, 2) := by decide +kernel
theorem dX6_fits_47 : decode cX6_fits 47 = .ok (.istore_n 2, 1) := by decide +kernel
theorem dX6_fits_48 : decode cX6_fits 48 = .ok (.iload_n 2, 1) := by decide +kernel
theorem dX6_fits_49 : decode cX6_fits 49 = .ok (.ifCond .lt 30, 3) := by decide +kernel
theorem dX6_fits_52 : decode cX6_fits 52 = .ok (.aload_n 0, 1) := by decide +kernel
theorem dX6_fits_53 : decode cX6_fits 53 = .ok (.aload_n 0, 1) := by decide +kernel
theorem dX6_fits_54 : decode cX6_fits 54 = .ok (.getfield 47, 3) := by decide +kernel
theorem dX6_fits_57 : decode cX6_fits 57 = .ok (.iload_n 2, 1) := by decide +kernel
theorem dX6_fits_58 : decode cX6_fits 58 = .ok (.baload, 1) := by decide +kernel
theorem dX6_fits_59 : decode cX6_fits 59 = .ok (.ifCond .eq 7, 3) := by decide +kernel
theorem dX6_fits_62 : decode cX6_fits 62 = .ok (.iload_n 2, 1) := by decide +kernel
theorem dX6_fits_63 : decode cX6_fits 63 = .ok (.goto 7, 3) := by decide +kernel
theorem dX6_fits_66 : decode cX6_fits 66 = .ok (.aload_n 0, 1) := by decide +kernel
theorem dX6_fits_67 : decode cX6_fits 67 = .ok (.getfield 58, 3) := by decide +kernel
theorem dX6_fits_70 : decode cX6_fits 70 = .ok (.putfield 58, 3) := by decide +kernel
theorem dX6_fits_73 : decode cX6_fits 73 = .ok (.iinc 2 (-1), 3) := by decide +kernel
theorem dX6_fits_76 : decode cX6_fits 76 = .ok (.goto (-28), 3) := by decide +kernel
theorem dX6_fits_79 : decode cX6_fits 79 = .ok (.iconst 1, 1) := by decide +kernel
theorem dX6_fits_80 : decode cX6_fits 80 = .ok (.ireturn, 1) := by decide +kernel
def j_X6_fits (F : Nat) (a1 : Int32) (st : sw_St) : Option (Int32 × sw_St) :=
bo (j_X6_in F ((a1 : Int32).toInt64) 0 10 st) (fun (r2 : Int32) =>
(if r2 = 0 then (
 some (((-1) : Int32), st))
else (
 (if (st.1 63 1) = 0 then (
  some (((-4) : Int32), st))
 else (
  bd (j_X6_layFits F a1 st) (fun (r6 : Int32) (s7 : sw_St) =>
  nm (sw_setJ s7 63 10 ((r6 : Int32).toInt64)) (fun (s8 : sw_St) =>
  nm (sw_setJ s8 63 11 1) (fun (s9 : sw_St) =>
  nm (sw_setC s9 63 9 (-9)) (fun (s10 : sw_St) =>
  lz2 (fun f13 (x11 : Int32) (s12 : sw_St) =>
   (if x11 < 0 then (
    some ((1 : Int32), s12))
   else (
    bnd x11 64 (
    jn (fun (x17 : Int32) => 
      nm (sw_setC s12 63 9 x17) (fun (s20 : sw_St) =>
      nm (x11 + (-1)) (fun (x21 : Int32) =>
      f13 x21 s20))) (fun k18 =>
     (if (s12.1 75 (x11 : Int32).toNatClampNeg) = 0 then (
      k18 (s12.1 63 9))
     else (
      k18 x11))))))) F 63 s10)))))))))
set_option maxHeartbeats 4000000 in
set_option maxRecDepth 100000 in
theorem c_X6_fits (F : Nat) (a1 : Int32) (st : sw_St) {r : Int32} {st1 : sw_St} (h : j_X6_fits F a1 st = some (r, st1)) : sw_CI yX6_fits (.code yX6_fits cX6_fits 3 (some .int)) 7 (fun g => [.ref (g.1 63), .int a1]) st r st1 := by
  refine sw_entI RX6 (fun g => [(0, .ref (g.1 63)), (1, .int a1)]) (by decide) rfl (fun _ => Nat.le_of_ble_eq_true rfl) (fun _ => rfl) ?_
  intro p l e s m args below meth c g X hr hlk
  unfold j_X6_fits at h
  refine sw_iload_n X 1 rfl rfl dX6_fits_0 ?_
  refine sw_i2l X dX6_fits_1 ?_
  refine sw_lconst X (v := 0) (by decide) dX6_fits_2 ?_
  refine sw_ldc2 X (v := 10) wl_X6_243 dX6_fits_3 ?_
  obtain ⟨r2, c1, h⟩ := bo_E h
  refine sw_callSI X (As := (fun g => [.long ((a1 : Int32).toInt64), .long 0, .long 10])) ws_X6_in (by omega) (c_X6_in F ((a1 : Int32).toInt64) 0 10 st c1) rfl rfl (Nat.le_of_ble_eq_true rfl) wm_X6_63 dX6_fits_6 ?_
  refine sw_if_ne X 14 (by decide) dX6_fits_9 (fun q3 => ?_) (fun q3 => ?_)
  · have h := ite_F h q3
    refine sw_aload_n X 0 rfl rfl dX6_fits_14 ?_
    refine sw_getI X sw_cl6 (show sw_kd 63 = 6 from rfl) (k := 1) rfl (by decide) wf_X6_136 dX6_fits_15 ?_
    refine sw_if_ne X 24 (by decide) dX6_fits_18 (fun q4 => ?_) (fun q4 => ?_)
    · have h := ite_F h q4
      refine sw_aload_n X 0 rfl rfl dX6_fits_24 ?_
      refine sw_aload_n X 0 rfl rfl dX6_fits_25 ?_
      refine sw_iload_n X 1 rfl rfl dX6_fits_26 ?_
      obtain ⟨r6, s7, c5, h⟩ := bd_E h
      refine sw_callVI X (o := 63) (As := (fun g => [.int a1])) sw_cl6 (show sw_kd 63 = 6 from rfl) ws_X6_layFits (by omega) (c_X6_layFits F a1 st c5) rfl rfl (Nat.le_of_ble_eq_true rfl) wm_X6_245 dX6_fits_27 ?_
      refine sw_i2l X dX6_fits_30 ?_
      refine sw_putL X sw_cl6 (show sw_kd 63 = 6 from rfl) (k := 10) rfl (by decide) rfl rfl wf_X6_229 dX6_fits_31 (fun s8 es8 => ?_)
      have h := nm_E h es8
      refine sw_aload_n X 0 rfl rfl dX6_fits_34 ?_
      refine sw_lconst X (v := 1) (by decide) dX6_fits_35 ?_
      refine sw_putL X sw_cl6 (show sw_kd 63 = 6 from rfl) (k := 11) rfl (by decide) rfl rfl wf_X6_34 dX6_fits_36 (fun s9 es9 => ?_)
      have h := nm_E h es9
      refine sw_aload_n X 0 rfl rfl dX6_fits_39 ?_
      refine sw_bipush X (v := (-9)) (by decide) dX6_fits_40 ?_
      refine sw_putI X sw_cl6 (show sw_kd 63 = 6 from rfl) (k := 9) rfl (by decide) rfl rfl wf_X6_58 dX6_fits_42 (fun s10 es10 => ?_)
      have h := nm_E h es10
      refine sw_bipush X (v := 63) (by decide) dX6_fits_45 ?_
      refine sw_istore_n X [(2, .int 63), (0, .ref (g.1 63)), (1, .int a1)] rfl (by decide) rfl dX6_fits_47 ?_
      refine sw_sub [1, 0] rfl ?_
      refine lz2_E (fun (x11 : Int32) (s12 : sw_St) => sw_V p l e 7 s m args below meth c g (sw_A g s.heap.size) (sw_QI below g args s r st1) 3 48 [(0, .ref (g.1 63)), (2, .int x11)] [] s12) h (fun f13 ih14 x11 s12 h => ?_)
      refine sw_iload_n X 1 rfl rfl dX6_fits_48 ?_
      refine sw_if_lt X 79 (by decide) dX6_fits_49 (fun q15 => ?_) (fun q15 => ?_)
      · have h := ite_T h q15
        refine sw_iconst X (v := 1) (by decide) dX6_fits_79 ?_
        exact sw_iret X hr hlk dX6_fits_80 h
      · have h := ite_F h q15
        refine sw_aload_n X 0 rfl rfl dX6_fits_52 ?_
        refine sw_aload_n X 0 rfl rfl dX6_fits_53 ?_
        refine sw_getR X sw_cl6 (show sw_kd 63 = 6 from rfl) (k := 27) rfl (by decide) (o1 := 75) rfl wf_X6_47 dX6_fits_54 ?_
        refine sw_iload_n X 1 rfl rfl dX6_fits_57 ?_
        obtain ⟨q16, h⟩ := bnd_E h
        refine sw_zald X (show sw_kd 75 = 9 from rfl) (n := 64) rfl q16 dX6_fits_58 ?_
        refine jn1_E (fun (x17 : Int32) => sw_V p l e 7 s m args below meth c g (sw_A g s.heap.size) (sw_QI below g args s r st1) 3 70 [(0, .ref (g.1 63)), (2, .int x11)] [.int x17, .ref (g.1 63)] s12) h (fun x17 h => ?_) (fun k18 J19 h => ?_)
        · refine sw_putI X sw_cl6 (show sw_kd 63 = 6 from rfl) (k := 9) rfl (by decide) rfl rfl wf_X6_58 dX6_fits_70 (fun s20 es20 => ?_)
          have h := nm_E h es20
          obtain ⟨x21, ex21⟩ : ∃ y : Int32, y = x11 + (-1) := ⟨_, rfl⟩
          have h := nm_E h ex21
          refine sw_iinc X 1 x21 [(2, .int x21), (0, .ref (g.1 63))] rfl (by rw [ex21]; rfl) (by decide) rfl dX6_fits_73 ?_
          refine sw_goto X 48 (by decide) dX6_fits_76 ?_
          refine sw_sub [1, 0] rfl ?_
          exact ih14 _ _ h
        · refine sw_if_eq X 66 (by decide) dX6_fits_59 (fun q22 => ?_) (fun q22 => ?_)
          · have h := ite_T h q22
            refine sw_aload_n X 0 rfl rfl dX6_fits_66 ?_
            refine sw_getI X sw_cl6 (show sw_kd 63 = 6 from rfl) (k := 9) rfl (by decide) wf_X6_58 dX6_fits_67 ?_
            exact J19 _ h
          · have h := ite_F h q22
            refine sw_iload_n X 1 rfl rfl dX6_fits_62 ?_
            refine sw_goto X 70 (by decide) dX6_fits_63 ?_
            exact J19 _ h
    · have h := ite_T h q4
      refine sw_bipush X (v := (-4)) (by decide) dX6_fits_21 ?_
      exact sw_iret X hr hlk dX6_fits_23 h
  · have h := ite_T h q3
    refine sw_iconst X (v := (-1)) (by decide) dX6_fits_12 ?_
    exact sw_iret X hr hlk dX6_fits_13 h
theorem dX6_noFits_0 : decode cX6_noFits 0 = .ok (.iload_n 1, 1) := by decide +kernel
theorem dX6_noFits_1 : decode cX6_noFits 1 = .ok (.i2l, 1) := by decide +kernel
theorem dX6_noFits_2 : decode cX6_noFits 2 = .ok (.lconst 0, 1) := by decide +kernel
theorem dX6_noFits_3 : decode cX6_noFits 3 = .ok (.ldc2_w 243, 3) := by decide +kernel
theorem dX6_noFits_6 : decode cX6_noFits 6 = .ok (.invokestatic 63, 3) := by decide +kernel
theorem dX6_noFits_9 : decode cX6_noFits 9 = .ok (.ifCond .ne 7, 3) := by decide +kernel
theorem dX6_noFits_12 : decode cX6_noFits 12 = .ok (.iconst (-1), 1) := by decide +kernel
theorem dX6_noFits_13 : decode cX6_noFits 13 = .ok (.goto 32, 3) := by decide +kernel
theorem dX6_noFits_16 : decode cX6_noFits 16 = .ok (.aload_n 0, 1) := by decide +kernel
theorem dX6_noFits_17 : decode cX6_noFits 17 = .ok (.getfield 136, 3) := by decide +kernel
theorem dX6_noFits_20 : decode cX6_noFits 20 = .ok (.ifCond .ne 8, 3) := by decide +kernel
theorem dX6_noFits_23 : decode cX6_noFits 23 = .ok (.bipush (-4), 2) := by decide +kernel
theorem dX6_noFits_25 : decode cX6_noFits 25 = .ok (.goto 20, 3) := by decide +kernel
theorem dX6_noFits_28 : decode cX6_noFits 28 = .ok (.aload_n 0, 1) := by decide +kernel
theorem dX6_noFits_29 : decode cX6_noFits 29 = .ok (.iload_n 1, 1) := by decide +kernel
theorem dX6_noFits_30 : decode cX6_noFits 30 = .ok (.invokevirtual 245, 3) := by decide +kernel
theorem dX6_noFits_33 : decode cX6_noFits 33 = .ok (.ifCond .ne 11, 3) := by decide +kernel
theorem dX6_noFits_36 : decode cX6_noFits 36 = .ok (.aload_n 0, 1) := by decide +kernel
theorem dX6_noFits_37 : decode cX6_noFits 37 = .ok (.iconst 4, 1) := by decide +kernel
theorem dX6_noFits_38 : decode cX6_noFits 38 = .ok (.invokevirtual 73, 3) := by decide +kernel
theorem dX6_noFits_41 : decode cX6_noFits 41 = .ok (.goto 4, 3) := by decide +kernel
theorem dX6_noFits_44 : decode cX6_noFits 44 = .ok (.iconst 0, 1) := by decide +kernel
theorem dX6_noFits_45 : decode cX6_noFits 45 = .ok (.ireturn, 1) := by decide +kernel
def j_X6_noFits (F : Nat) (a1 : Int32) (st : sw_St) : Option (Int32 × sw_St) :=
bo (j_X6_in F ((a1 : Int32).toInt64) 0 10 st) (fun (r2 : Int32) =>
jn (fun (x3 : Int32) (s4 : sw_St) => 
  some ((x3 : Int32), s4)) (fun k5 =>
 (if r2 = 0 then (
  k5 (-1) st)
 else (
  (if (st.1 63 1) = 0 then (
   k5 (-4) st)
  else (
   bd (j_X6_layFits F a1 st) (fun (r10 : Int32) (s11 : sw_St) =>
   (if r10 = 0 then (
    bd (j_X6_find F 4 s11) (fun (r14 : Int32) (s15 : sw_St) =>
    k5 r14 s15))
   else (
    k5 0 s11)))))))))
set_option maxHeartbeats 4000000 in
set_option maxRecDepth 100000 in
theorem c_X6_noFits (F : Nat) (a1 : Int32) (st : sw_St) {r : Int32} {st1 : sw_St} (h : j_X6_noFits F a1 st = some (r, st1)) : sw_CI yX6_noFits (.code yX6_noFits cX6_noFits 2 (some .int)) 7 (fun g => [.ref (g.1 63), .int a1]) st r st1 := by
  refine sw_entI RX6 (fun g => [(0, .ref (g.1 63)), (1, .int a1)]) (by decide) rfl (fun _ => Nat.le_of_ble_eq_true rfl) (fun _ => rfl) ?_
  intro p l e s m args below meth c g X hr hlk
  unfold j_X6_noFits at h
  refine sw_iload_n X 1 rfl rfl dX6_noFits_0 ?_
  refine sw_i2l X dX6_noFits_1 ?_
  refine sw_lconst X (v := 0) (by decide) dX6_noFits_2 ?_
  refine sw_ldc2 X (v := 10) wl_X6_243 dX6_noFits_3 ?_
  obtain ⟨r2, c1, h⟩ := bo_E h
  refine sw_callSI X (As := (fun g => [.long ((a1 : Int32).toInt64), .long 0, .long 10])) ws_X6_in (by omega) (c_X6_in F ((a1 : Int32).toInt64) 0 10 st c1) rfl rfl (Nat.le_of_ble_eq_true rfl) wm_X6_63 dX6_noFits_6 ?_
  refine jn2_E (fun (x3 : Int32) (s4 : sw_St) => sw_V p l e 7 s m args below meth c g (sw_A g s.heap.size) (sw_QI below g args s r st1) 2 45 [] [.int x3] s4) h (fun x3 s4 h => ?_) (fun k5 J6 h => ?_)
  · exact sw_iret X hr hlk dX6_noFits_45 h
  · refine sw_if_ne X 16 (by decide) dX6_noFits_9 (fun q7 => ?_) (fun q7 => ?_)
    · have h := ite_F h q7
      refine sw_aload_n X 0 rfl rfl dX6_noFits_16 ?_
      refine sw_getI X sw_cl6 (show sw_kd 63 = 6 from rfl) (k := 1) rfl (by decide) wf_X6_136 dX6_noFits_17 ?_
      refine sw_if_ne X 28 (by decide) dX6_noFits_20 (fun q8 => ?_) (fun q8 => ?_)
      · have h := ite_F h q8
        refine sw_aload_n X 0 rfl rfl dX6_noFits_28 ?_
        refine sw_iload_n X 1 rfl rfl dX6_noFits_29 ?_
        obtain ⟨r10, s11, c9, h⟩ := bd_E h
        refine sw_callVI X (o := 63) (As := (fun g => [.int a1])) sw_cl6 (show sw_kd 63 = 6 from rfl) ws_X6_layFits (by omega) (c_X6_layFits F a1 st c9) rfl rfl (Nat.le_of_ble_eq_true rfl) wm_X6_245 dX6_noFits_30 ?_
        refine sw_if_ne X 44 (by decide) dX6_noFits_33 (fun q12 => ?_) (fun q12 => ?_)
        · have h := ite_F h q12
          refine sw_iconst X (v := 0) (by decide) dX6_noFits_44 ?_
          refine sw_sub [] rfl ?_
          exact J6 _ _ h
        · have h := ite_T h q12
          refine sw_aload_n X 0 rfl rfl dX6_noFits_36 ?_
          refine sw_iconst X (v := 4) (by decide) dX6_noFits_37 ?_
          obtain ⟨r14, s15, c13, h⟩ := bd_E h
          refine sw_callVI X (o := 63) (As := (fun g => [.int 4])) sw_cl6 (show sw_kd 63 = 6 from rfl) ws_X6_find (by omega) (c_X6_find F 4 s11 c13) rfl rfl (Nat.le_of_ble_eq_true rfl) wm_X6_73 dX6_noFits_38 ?_
          refine sw_goto X 45 (by decide) dX6_noFits_41 ?_
          refine sw_sub [] rfl ?_
          exact J6 _ _ h
      · have h := ite_T h q8
        refine sw_bipush X (v := (-4)) (by decide) dX6_noFits_23 ?_
        refine sw_goto X 45 (by decide) dX6_noFits_25 ?_
        refine sw_sub [] rfl ?_
        exact J6 _ _ h
    · have h := ite_T h q7
      refine sw_iconst X (v := (-1)) (by decide) dX6_noFits_12 ?_
      refine sw_goto X 45 (by decide) dX6_noFits_13 ?_
      refine sw_sub [] rfl ?_
      exact J6 _ _ h
theorem dX6_sure_0 : decode cX6_sure 0 = .ok (.aload_n 0, 1) := by decide +kernel
theorem dX6_sure_1 : decode cX6_sure 1 = .ok (.iload_n 1, 1) := by decide +kernel
theorem dX6_sure_2 : decode cX6_sure 2 = .ok (.invokevirtual 248, 3) := by decide +kernel
theorem dX6_sure_5 : decode cX6_sure 5 = .ok (.istore_n 2, 1) := by decide +kernel
theorem dX6_sure_6 : decode cX6_sure 6 = .ok (.iload_n 2, 1) := by decide +kernel
theorem dX6_sure_7 : decode cX6_sure 7 = .ok (.ifCond .eq 5, 3) := by decide +kernel
theorem dX6_sure_10 : decode cX6_sure 10 = .ok (.iload_n 2, 1) := by decide +kernel
theorem dX6_sure_11 : decode cX6_sure 11 = .ok (.ireturn, 1) := by decide +kernel
theorem dX6_sure_12 : decode cX6_sure 12 = .ok (.aload_n 0, 1) := by decide +kernel
theorem dX6_sure_13 : decode cX6_sure 13 = .ok (.invokevirtual 201, 3) := by decide +kernel
theorem dX6_sure_16 : decode cX6_sure 16 = .ok (.istore_n 3, 1) := by decide +kernel
theorem dX6_sure_17 : decode cX6_sure 17 = .ok (.iconst 0, 1) := by decide +kernel
theorem dX6_sure_18 : decode cX6_sure 18 = .ok (.istore 4, 2) := by decide +kernel
theorem dX6_sure_20 : decode cX6_sure 20 = .ok (.iconst 0, 1) := by decide +kernel
theorem dX6_sure_21 : decode cX6_sure 21 = .ok (.istore 5, 2) := by decide +kernel
theorem dX6_sure_23 : decode cX6_sure 23 = .ok (.iload 5, 2) := by decide +kernel
theorem dX6_sure_25 : decode cX6_sure 25 = .ok (.bipush 64, 2) := by decide +kernel
theorem dX6_sure_27 : decode cX6_sure 27 = .ok (.if_icmp .ge 50, 3) := by decide +kernel
theorem dX6_sure_30 : decode cX6_sure 30 = .ok (.iload_n 3, 1) := by decide +kernel
theorem dX6_sure_31 : decode cX6_sure 31 = .ok (.aload_n 0, 1) := by decide +kernel
theorem dX6_sure_32 : decode cX6_sure 32 = .ok (.getfield 47, 3) := by decide +kernel
theorem dX6_sure_35 : decode cX6_sure 35 = .ok (.iload 5, 2) := by decide +kernel
theorem dX6_sure_37 : decode cX6_sure 37 = .ok (.baload, 1) := by decide +kernel
theorem dX6_sure_38 : decode cX6_sure 38 = .ok (.ifCond .eq 8, 3) := by decide +kernel
theorem dX6_sure_41 : decode cX6_sure 41 = .ok (.iload 5, 2) := by decide +kernel
theorem dX6_sure_43 : decode cX6_sure 43 = .ok (.goto 5, 3) := by decide +kernel
theorem dX6_sure_46 : decode cX6_sure 46 = .ok (.bipush 63, 2) := by decide +kernel
theorem dX6_sure_48 : decode cX6_sure 48 = .ok (.iand, 1) := by decide +kernel
theorem dX6_sure_49 : decode cX6_sure 49 = .ok (.istore_n 3, 1) := by decide +kernel
theorem dX6_sure_50 : decode cX6_sure 50 = .ok (.iload 4, 2) := by decide +kernel
theorem dX6_sure_52 : decode cX6_sure 52 = .ok (.aload_n 0, 1) := by decide +kernel
theorem dX6_sure_53 : decode cX6_sure 53 = .ok (.getfield 47, 3) := by decide +kernel
theorem dX6_sure_56 : decode cX6_sure 56 = .ok (.iload 5, 2) := by decide +kernel
theorem dX6_sure_58 : decode cX6_sure 58 = .ok (.baload, 1) := by decide +kernel
theorem dX6_sure_59 : decode cX6_sure 59 = .ok (.ifCond .eq 8, 3) := by decide +kernel
theorem dX6_sure_62 : decode cX6_sure 62 = .ok (.iload 5, 2) := by decide +kernel
theorem dX6_sure_64 : decode cX6_sure 64 = .ok (.goto 4, 3) := by decide +kernel
theorem dX6_sure_67 : decode cX6_sure 67 = .ok (.iconst 0, 1) := by decide +kernel
theorem dX6_sure_68 : decode cX6_sure 68 = .ok (.ior, 1) := by decide +kernel
theorem dX6_sure_69 : decode cX6_sure 69 = .ok (.istore 4, 2) := by decide +kernel
theorem dX6_sure_71 : decode cX6_sure 71 = .ok (.iinc 5 1, 3) := by decide +kernel
theorem dX6_sure_74 : decode cX6_sure 74 = .ok (.goto (-51), 3) := by decide +kernel
theorem dX6_sure_77 : decode cX6_sure 77 = .ok (.aload_n 0, 1) := by decide +kernel
theorem dX6_sure_78 : decode cX6_sure 78 = .ok (.aload_n 0, 1) := by decide +kernel
theorem dX6_sure_79 : decode cX6_sure 79 = .ok (.invokevirtual 201, 3) := by decide +kernel
theorem dX6_sure_82 : decode cX6_sure 82 = .ok (.iload 4, 2) := by decide +kernel
theorem dX6_sure_84 : decode cX6_sure 84 = .ok (.iconst (-1), 1) := by decide +kernel
theorem dX6_sure_85 : decode cX6_sure 85 = .ok (.ixor, 1) := by decide +kernel
theorem dX6_sure_86 : decode cX6_sure 86 = .ok (.iand, 1) := by decide +kernel
theorem dX6_sure_87 : decode cX6_sure 87 = .ok (.putfield 58, 3) := by decide +kernel
theorem dX6_sure_90 : decode cX6_sure 90 = .ok (.iload_n 3, 1) := by decide +kernel
theorem dX6_sure_91 : decode cX6_sure 91 = .ok (.ireturn, 1) := by decide +kernel
def j_X6_sure (F : Nat) (a1 : Int32) (st : sw_St) : Option (Int32 × sw_St) :=
bd (j_X6_noFits F a1 st) (fun (r2 : Int32) (s3 : sw_St) =>
(if r2 = 0 then (
 bo (j_X6_out F s3) (fun (r6 : Int32) =>
 lz3 (fun f10 (x7 : Int32) (x8 : Int32) (x9 : Int32) =>
  (if 64 ≤ x9 then (
   bo (j_X6_out F s3) (fun (r14 : Int32) =>
   nm (sw_setC s3 63 9 (r14 &&& (x8 ^^^ (-1)))) (fun (s15 : sw_St) =>
   some ((x7 : Int32), s15))))
  else (
   bnd x9 64 (
   jn (fun (x17 : Int32) => 
     nm (x7 &&& x17) (fun (x20 : Int32) =>
     bnd x9 64 (
     jn (fun (x22 : Int32) => 
       nm (x8 ||| x22) (fun (x25 : Int32) =>
       nm (x9 + 1) (fun (x26 : Int32) =>
       f10 x20 x25 x26))) (fun k23 =>
      (if (s3.1 75 (x9 : Int32).toNatClampNeg) = 0 then (
       k23 0)
      else (
       k23 x9)))))) (fun k18 =>
    (if (s3.1 75 (x9 : Int32).toNatClampNeg) = 0 then (
     k18 63)
    else (
     k18 x9))))))) F r6 0 0))
else (
 some ((r2 : Int32), s3))))
set_option maxHeartbeats 4000000 in
set_option maxRecDepth 100000 in
theorem c_X6_sure (F : Nat) (a1 : Int32) (st : sw_St) {r : Int32} {st1 : sw_St} (h : j_X6_sure F a1 st = some (r, st1)) : sw_CI yX6_sure (.code yX6_sure cX6_sure 6 (some .int)) 8 (fun g => [.ref (g.1 63), .int a1]) st r st1 := by
  refine sw_entI RX6 (fun g => [(0, .ref (g.1 63)), (1, .int a1)]) (by decide) rfl (fun _ => Nat.le_of_ble_eq_true rfl) (fun _ => rfl) ?_
  intro p l e s m args below meth c g X hr hlk
  unfold j_X6_sure at h
  refine sw_aload_n X 0 rfl rfl dX6_sure_0 ?_
  refine sw_iload_n X 1 rfl rfl dX6_sure_1 ?_
  obtain ⟨r2, s3, c1, h⟩ := bd_E h
  refine sw_callVI X (o := 63) (As := (fun g => [.int a1])) sw_cl6 (show sw_kd 63 = 6 from rfl) ws_X6_noFits (by omega) (c_X6_noFits F a1 st c1) rfl rfl (Nat.le_of_ble_eq_true rfl) wm_X6_248 dX6_sure_2 ?_
  refine sw_istore_n X [(2, .int r2), (0, .ref (g.1 63)), (1, .int a1)] rfl (by decide) rfl dX6_sure_5 ?_
  refine sw_iload_n X 0 rfl rfl dX6_sure_6 ?_
  refine sw_if_eq X 12 (by decide) dX6_sure_7 (fun q4 => ?_) (fun q4 => ?_)
  · have h := ite_T h q4
    refine sw_aload_n X 1 rfl rfl dX6_sure_12 ?_
    obtain ⟨r6, c5, h⟩ := bo_E h
    refine sw_callVI X (o := 63) (As := (fun g => [])) sw_cl6 (show sw_kd 63 = 6 from rfl) ws_X6_out (by omega) (c_X6_out F s3 c5) rfl rfl (Nat.le_of_ble_eq_true rfl) wm_X6_201 dX6_sure_13 ?_
    refine sw_istore_n X [(3, .int r6), (2, .int r2), (0, .ref (g.1 63)), (1, .int a1)] rfl (by decide) rfl dX6_sure_16 ?_
    refine sw_iconst X (v := 0) (by decide) dX6_sure_17 ?_
    refine sw_istore X [(4, .int 0), (3, .int r6), (2, .int r2), (0, .ref (g.1 63)), (1, .int a1)] (by decide) rfl dX6_sure_18 ?_
    refine sw_iconst X (v := 0) (by decide) dX6_sure_20 ?_
    refine sw_istore X [(5, .int 0), (4, .int 0), (3, .int r6), (2, .int r2), (0, .ref (g.1 63)), (1, .int a1)] (by decide) rfl dX6_sure_21 ?_
    refine sw_sub [4, 2, 1, 0] rfl ?_
    refine lz3_E (fun (x7 : Int32) (x8 : Int32) (x9 : Int32) => sw_V p l e 8 s m args below meth c g (sw_A g s.heap.size) (sw_QI below g args s r st1) 6 23 [(0, .ref (g.1 63)), (3, .int x7), (4, .int x8), (5, .int x9)] [] s3) h (fun f10 ih11 x7 x8 x9 h => ?_)
    refine sw_iload X 3 rfl dX6_sure_23 ?_
    refine sw_bipush X (v := 64) (by decide) dX6_sure_25 ?_
    refine sw_icmp_ge X 77 (by decide) dX6_sure_27 (fun q12 => ?_) (fun q12 => ?_)
    · have h := ite_T h q12
      refine sw_aload_n X 0 rfl rfl dX6_sure_77 ?_
      refine sw_aload_n X 0 rfl rfl dX6_sure_78 ?_
      obtain ⟨r14, c13, h⟩ := bo_E h
      refine sw_callVI X (o := 63) (As := (fun g => [])) sw_cl6 (show sw_kd 63 = 6 from rfl) ws_X6_out (by omega) (c_X6_out F s3 c13) rfl rfl (Nat.le_of_ble_eq_true rfl) wm_X6_201 dX6_sure_79 ?_
      refine sw_iload X 2 rfl dX6_sure_82 ?_
      refine sw_iconst X (v := (-1)) (by decide) dX6_sure_84 ?_
      refine sw_ixor X dX6_sure_85 ?_
      refine sw_iand X dX6_sure_86 ?_
      refine sw_putI X sw_cl6 (show sw_kd 63 = 6 from rfl) (k := 9) rfl (by decide) rfl rfl wf_X6_58 dX6_sure_87 (fun s15 es15 => ?_)
      have h := nm_E h es15
      refine sw_iload_n X 1 rfl rfl dX6_sure_90 ?_
      exact sw_iret X hr hlk dX6_sure_91 h
    · have h := ite_F h q12
      refine sw_iload_n X 1 rfl rfl dX6_sure_30 ?_
      refine sw_aload_n X 0 rfl rfl dX6_sure_31 ?_
      refine sw_getR X sw_cl6 (show sw_kd 63 = 6 from rfl) (k := 27) rfl (by decide) (o1 := 75) rfl wf_X6_47 dX6_sure_32 ?_
      refine sw_iload X 3 rfl dX6_sure_35 ?_
      obtain ⟨q16, h⟩ := bnd_E h
      refine sw_zald X (show sw_kd 75 = 9 from rfl) (n := 64) rfl q16 dX6_sure_37 ?_
      refine jn1_E (fun (x17 : Int32) => sw_V p l e 8 s m args below meth c g (sw_A g s.heap.size) (sw_QI below g args s r st1) 6 48 [(0, .ref (g.1 63)), (4, .int x8), (5, .int x9)] [.int x17, .int x7] s3) h (fun x17 h => ?_) (fun k18 J19 h => ?_)
      · refine sw_iand X dX6_sure_48 ?_
        refine sw_topi (fun x20 ex20 => ?_)
        have h := nm_E h ex20
        refine sw_istore_n X [(3, .int x20), (0, .ref (g.1 63)), (4, .int x8), (5, .int x9)] rfl (by decide) rfl dX6_sure_49 ?_
        refine sw_iload X 2 rfl dX6_sure_50 ?_
        refine sw_aload_n X 1 rfl rfl dX6_sure_52 ?_
        refine sw_getR X sw_cl6 (show sw_kd 63 = 6 from rfl) (k := 27) rfl (by decide) (o1 := 75) rfl wf_X6_47 dX6_sure_53 ?_
        refine sw_iload X 3 rfl dX6_sure_56 ?_
        obtain ⟨q21, h⟩ := bnd_E h
        refine sw_zald X (show sw_kd 75 = 9 from rfl) (n := 64) rfl q21 dX6_sure_58 ?_
        refine jn1_E (fun (x22 : Int32) => sw_V p l e 8 s m args below meth c g (sw_A g s.heap.size) (sw_QI below g args s r st1) 6 68 [(0, .ref (g.1 63)), (3, .int x20), (5, .int x9)] [.int x22, .int x8] s3) h (fun x22 h => ?_) (fun k23 J24 h => ?_)
        · refine sw_ior X dX6_sure_68 ?_
          refine sw_topi (fun x25 ex25 => ?_)
          have h := nm_E h ex25
          refine sw_istore X [(4, .int x25), (0, .ref (g.1 63)), (3, .int x20), (5, .int x9)] (by decide) rfl dX6_sure_69 ?_
          obtain ⟨x26, ex26⟩ : ∃ y : Int32, y = x9 + 1 := ⟨_, rfl⟩
          have h := nm_E h ex26
          refine sw_iinc X 3 x26 [(5, .int x26), (4, .int x25), (0, .ref (g.1 63)), (3, .int x20)] rfl (by rw [ex26]; rfl) (by decide) rfl dX6_sure_71 ?_
          refine sw_goto X 23 (by decide) dX6_sure_74 ?_
          refine sw_sub [2, 3, 1, 0] rfl ?_
          exact ih11 _ _ _ h
        · refine sw_if_eq X 67 (by decide) dX6_sure_59 (fun q27 => ?_) (fun q27 => ?_)
          · have h := ite_T h q27
            refine sw_iconst X (v := 0) (by decide) dX6_sure_67 ?_
            refine sw_sub [1, 0, 3] rfl ?_
            exact J24 _ h
          · have h := ite_F h q27
            refine sw_iload X 3 rfl dX6_sure_62 ?_
            refine sw_goto X 68 (by decide) dX6_sure_64 ?_
            refine sw_sub [1, 0, 3] rfl ?_
            exact J24 _ h
      · refine sw_if_eq X 46 (by decide) dX6_sure_38 (fun q28 => ?_) (fun q28 => ?_)
        · have h := ite_T h q28
          refine sw_bipush X (v := 63) (by decide) dX6_sure_46 ?_
          refine sw_sub [0, 2, 3] rfl ?_
          exact J19 _ h
        · have h := ite_F h q28
          refine sw_iload X 3 rfl dX6_sure_41 ?_
          refine sw_goto X 48 (by decide) dX6_sure_43 ?_
          refine sw_sub [0, 2, 3] rfl ?_
          exact J19 _ h
  · have h := ite_F h q4
    refine sw_iload_n X 0 rfl rfl dX6_sure_10 ?_
    exact sw_iret X hr hlk dX6_sure_11 h
