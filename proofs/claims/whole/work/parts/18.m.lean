theorem dX5_meets_0 : decode cX5_meets 0 = .ok (.iload_n 1, 1) := by decide +kernel
theorem dX5_meets_1 : decode cX5_meets 1 = .ok (.invokestatic 233, 3) := by decide +kernel
theorem dX5_meets_4 : decode cX5_meets 4 = .ok (.ifCond .ne 5, 3) := by decide +kernel
theorem dX5_meets_7 : decode cX5_meets 7 = .ok (.iconst (-1), 1) := by decide +kernel
theorem dX5_meets_8 : decode cX5_meets 8 = .ok (.ireturn, 1) := by decide +kernel
theorem dX5_meets_9 : decode cX5_meets 9 = .ok (.aload_n 0, 1) := by decide +kernel
theorem dX5_meets_10 : decode cX5_meets 10 = .ok (.getfield 29, 3) := by decide +kernel
theorem dX5_meets_13 : decode cX5_meets 13 = .ok (.getfield 134, 3) := by decide +kernel
theorem dX5_meets_16 : decode cX5_meets 16 = .ok (.ifCond .ne 6, 3) := by decide +kernel
theorem dX5_meets_19 : decode cX5_meets 19 = .ok (.bipush (-4), 2) := by decide +kernel
theorem dX5_meets_21 : decode cX5_meets 21 = .ok (.ireturn, 1) := by decide +kernel
theorem dX5_meets_22 : decode cX5_meets 22 = .ok (.aload_n 0, 1) := by decide +kernel
theorem dX5_meets_23 : decode cX5_meets 23 = .ok (.getfield 29, 3) := by decide +kernel
theorem dX5_meets_26 : decode cX5_meets 26 = .ok (.aload_n 0, 1) := by decide +kernel
theorem dX5_meets_27 : decode cX5_meets 27 = .ok (.getfield 29, 3) := by decide +kernel
theorem dX5_meets_30 : decode cX5_meets 30 = .ok (.getfield 166, 3) := by decide +kernel
theorem dX5_meets_33 : decode cX5_meets 33 = .ok (.invokevirtual 193, 3) := by decide +kernel
theorem dX5_meets_36 : decode cX5_meets 36 = .ok (.istore_n 2, 1) := by decide +kernel
theorem dX5_meets_37 : decode cX5_meets 37 = .ok (.iconst 0, 1) := by decide +kernel
theorem dX5_meets_38 : decode cX5_meets 38 = .ok (.istore_n 3, 1) := by decide +kernel
theorem dX5_meets_39 : decode cX5_meets 39 = .ok (.iload_n 3, 1) := by decide +kernel
theorem dX5_meets_40 : decode cX5_meets 40 = .ok (.bipush 40, 2) := by decide +kernel
theorem dX5_meets_42 : decode cX5_meets 42 = .ok (.if_icmp .gt 42, 3) := by decide +kernel
theorem dX5_meets_45 : decode cX5_meets 45 = .ok (.aload_n 0, 1) := by decide +kernel
theorem dX5_meets_46 : decode cX5_meets 46 = .ok (.getfield 29, 3) := by decide +kernel
theorem dX5_meets_49 : decode cX5_meets 49 = .ok (.iload_n 3, 1) := by decide +kernel
theorem dX5_meets_50 : decode cX5_meets 50 = .ok (.iload_n 2, 1) := by decide +kernel
theorem dX5_meets_51 : decode cX5_meets 51 = .ok (.invokestatic 301, 3) := by decide +kernel
theorem dX5_meets_54 : decode cX5_meets 54 = .ok (.invokevirtual 259, 3) := by decide +kernel
theorem dX5_meets_57 : decode cX5_meets 57 = .ok (.istore 4, 2) := by decide +kernel
theorem dX5_meets_59 : decode cX5_meets 59 = .ok (.iload 4, 2) := by decide +kernel
theorem dX5_meets_61 : decode cX5_meets 61 = .ok (.iload_n 1, 1) := by decide +kernel
theorem dX5_meets_62 : decode cX5_meets 62 = .ok (.iload_n 3, 1) := by decide +kernel
theorem dX5_meets_63 : decode cX5_meets 63 = .ok (.iadd, 1) := by decide +kernel
theorem dX5_meets_64 : decode cX5_meets 64 = .ok (.bipush 12, 2) := by decide +kernel
theorem dX5_meets_66 : decode cX5_meets 66 = .ok (.irem, 1) := by decide +kernel
theorem dX5_meets_67 : decode cX5_meets 67 = .ok (.if_icmp .ne 11, 3) := by decide +kernel
theorem dX5_meets_70 : decode cX5_meets 70 = .ok (.aload_n 0, 1) := by decide +kernel
theorem dX5_meets_71 : decode cX5_meets 71 = .ok (.iload 4, 2) := by decide +kernel
theorem dX5_meets_73 : decode cX5_meets 73 = .ok (.putfield 79, 3) := by decide +kernel
theorem dX5_meets_76 : decode cX5_meets 76 = .ok (.iload_n 3, 1) := by decide +kernel
theorem dX5_meets_77 : decode cX5_meets 77 = .ok (.ireturn, 1) := by decide +kernel
theorem dX5_meets_78 : decode cX5_meets 78 = .ok (.iinc 3 1, 3) := by decide +kernel
theorem dX5_meets_81 : decode cX5_meets 81 = .ok (.goto (-42), 3) := by decide +kernel
theorem dX5_meets_84 : decode cX5_meets 84 = .ok (.bipush (-9), 2) := by decide +kernel
theorem dX5_meets_86 : decode cX5_meets 86 = .ok (.ireturn, 1) := by decide +kernel
def j_X5_meets (F : Nat) (a1 : Int32) (st : sw_St) : Option (Int32 × sw_St) :=
bo (j_X5_isDial F a1 st) (fun (r2 : Int32) =>
(if r2 = 0 then (
 some (((-1) : Int32), st))
else (
 (if (st.1 15 0) = 0 then (
  some (((-4) : Int32), st))
 else (
  bo (j_X4_hoursLeft F 15 (st.1 15 7) st) (fun (r6 : Int32) =>
  lz1 (fun f8 (x7 : Int32) =>
   (if 40 < x7 then (
    some (((-9) : Int32), st))
   else (
    bo (j_X4_clockAfter F 15 (if r6 < x7 then r6 else x7) st) (fun (r12 : Int32) =>
    (if r12 = ((a1 + x7) - (a1 + x7) / 12 * 12) then (
     nm (sw_setC st 0 14 r12) (fun (s15 : sw_St) =>
     some ((x7 : Int32), s15)))
    else (
     nm (x7 + 1) (fun (x14 : Int32) =>
     f8 x14))))))) F 0))))))
set_option maxHeartbeats 4000000 in
set_option maxRecDepth 100000 in
theorem c_X5_meets (F : Nat) (a1 : Int32) (st : sw_St) {r : Int32} {st1 : sw_St} (h : j_X5_meets F a1 st = some (r, st1)) : sw_CI yX5_meets (.code yX5_meets cX5_meets 5 (some .int)) 2 (fun g => [.ref (g.1 0), .int a1]) st r st1 := by
  refine sw_entI RX5 (fun g => [(0, .ref (g.1 0)), (1, .int a1)]) (by decide) rfl (fun _ => Nat.le_of_ble_eq_true rfl) (fun _ => rfl) ?_
  intro p l e s m args below meth c g X hr hlk
  unfold j_X5_meets at h
  refine sw_iload_n X 1 rfl rfl dX5_meets_0 ?_
  obtain ⟨r2, c1, h⟩ := bo_E h
  refine sw_callSI X (As := (fun g => [.int a1])) ws_X5_isDial (by omega) (c_X5_isDial F a1 st c1) rfl rfl (Nat.le_of_ble_eq_true rfl) wm_X5_233 dX5_meets_1 ?_
  refine sw_if_ne X 9 (by decide) dX5_meets_4 (fun q3 => ?_) (fun q3 => ?_)
  · have h := ite_F h q3
    refine sw_aload_n X 0 rfl rfl dX5_meets_9 ?_
    refine sw_getR X sw_cl5 (show sw_kd 0 = 5 from rfl) (k := 4) rfl (by decide) (o1 := 15) rfl wf_X5_29 dX5_meets_10 ?_
    refine sw_getI X sw_cl4 (show sw_kd 15 = 4 from rfl) (k := 0) rfl (by decide) wf_X5_134 dX5_meets_13 ?_
    refine sw_if_ne X 22 (by decide) dX5_meets_16 (fun q4 => ?_) (fun q4 => ?_)
    · have h := ite_F h q4
      refine sw_aload_n X 0 rfl rfl dX5_meets_22 ?_
      refine sw_getR X sw_cl5 (show sw_kd 0 = 5 from rfl) (k := 4) rfl (by decide) (o1 := 15) rfl wf_X5_29 dX5_meets_23 ?_
      refine sw_aload_n X 0 rfl rfl dX5_meets_26 ?_
      refine sw_getR X sw_cl5 (show sw_kd 0 = 5 from rfl) (k := 4) rfl (by decide) (o1 := 15) rfl wf_X5_29 dX5_meets_27 ?_
      refine sw_getI X sw_cl4 (show sw_kd 15 = 4 from rfl) (k := 7) rfl (by decide) wf_X5_166 dX5_meets_30 ?_
      obtain ⟨r6, c5, h⟩ := bo_E h
      refine sw_callVI X (o := 15) (As := (fun g => [.int (st.1 15 7)])) sw_cl4 (show sw_kd 15 = 4 from rfl) ws_X4_hoursLeft (by omega) (c_X4_hoursLeft F (show sw_kd 15 = 4 from rfl) (st.1 15 7) st c5) rfl rfl (Nat.le_of_ble_eq_true rfl) wm_X5_193 dX5_meets_33 ?_
      refine sw_istore_n X [(2, .int r6), (0, .ref (g.1 0)), (1, .int a1)] rfl (by decide) rfl dX5_meets_36 ?_
      refine sw_iconst X (v := 0) (by decide) dX5_meets_37 ?_
      refine sw_istore_n X [(3, .int 0), (2, .int r6), (0, .ref (g.1 0)), (1, .int a1)] rfl (by decide) rfl dX5_meets_38 ?_
      refine sw_sub [2, 3, 1, 0] rfl ?_
      refine lz1_E (fun (x7 : Int32) => sw_V p l e 2 s m args below meth c g (sw_A g s.heap.size) (sw_QI below g args s r st1) 5 39 [(0, .ref (g.1 0)), (1, .int a1), (2, .int r6), (3, .int x7)] [] st) h (fun f8 ih9 x7 h => ?_)
      refine sw_iload_n X 3 rfl rfl dX5_meets_39 ?_
      refine sw_bipush X (v := 40) (by decide) dX5_meets_40 ?_
      refine sw_icmp_gt X 84 (by decide) dX5_meets_42 (fun q10 => ?_) (fun q10 => ?_)
      · have h := ite_T h q10
        refine sw_bipush X (v := (-9)) (by decide) dX5_meets_84 ?_
        exact sw_iret X hr hlk dX5_meets_86 h
      · have h := ite_F h q10
        refine sw_aload_n X 0 rfl rfl dX5_meets_45 ?_
        refine sw_getR X sw_cl5 (show sw_kd 0 = 5 from rfl) (k := 4) rfl (by decide) (o1 := 15) rfl wf_X5_29 dX5_meets_46 ?_
        refine sw_iload_n X 3 rfl rfl dX5_meets_49 ?_
        refine sw_iload_n X 2 rfl rfl dX5_meets_50 ?_
        refine sw_mmin X wm_X5_301 ws_min.1 ws_min.2.1 ws_min.2.2 (by omega) (Nat.le_of_ble_eq_true rfl) dX5_meets_51 ?_
        obtain ⟨r12, c11, h⟩ := bo_E h
        refine sw_callVI X (o := 15) (As := (fun g => [.int (if r6 < x7 then r6 else x7)])) sw_cl4 (show sw_kd 15 = 4 from rfl) ws_X4_clockAfter (by omega) (c_X4_clockAfter F (show sw_kd 15 = 4 from rfl) (if r6 < x7 then r6 else x7) st c11) rfl rfl (Nat.le_of_ble_eq_true rfl) wm_X5_259 dX5_meets_54 ?_
        refine sw_istore X [(4, .int r12), (0, .ref (g.1 0)), (1, .int a1), (2, .int r6), (3, .int x7)] (by decide) rfl dX5_meets_57 ?_
        refine sw_iload X 0 rfl dX5_meets_59 ?_
        refine sw_iload_n X 2 rfl rfl dX5_meets_61 ?_
        refine sw_iload_n X 4 rfl rfl dX5_meets_62 ?_
        refine sw_iadd X dX5_meets_63 ?_
        refine sw_bipush X (v := 12) (by decide) dX5_meets_64 ?_
        refine sw_irem X (by decide) dX5_meets_66 ?_
        refine sw_icmp_ne X 78 (by decide) dX5_meets_67 (fun q13 => ?_) (fun q13 => ?_)
        · have h := ite_F h q13
          obtain ⟨x14, ex14⟩ : ∃ y : Int32, y = x7 + 1 := ⟨_, rfl⟩
          have h := nm_E h ex14
          refine sw_iinc X 4 x14 [(3, .int x14), (4, .int r12), (0, .ref (g.1 0)), (1, .int a1), (2, .int r6)] rfl (by rw [ex14]; rfl) (by decide) rfl dX5_meets_78 ?_
          refine sw_goto X 39 (by decide) dX5_meets_81 ?_
          refine sw_sub [2, 3, 4, 0] rfl ?_
          exact ih9 _ h
        · have h := ite_T h q13
          refine sw_aload_n X 1 rfl rfl dX5_meets_70 ?_
          refine sw_iload X 0 rfl dX5_meets_71 ?_
          refine sw_putI X sw_cl5 (show sw_kd 0 = 5 from rfl) (k := 14) rfl (by decide) rfl rfl wf_X5_79 dX5_meets_73 (fun s15 es15 => ?_)
          have h := nm_E h es15
          refine sw_iload_n X 4 rfl rfl dX5_meets_76 ?_
          exact sw_iret X hr hlk dX5_meets_77 h
    · have h := ite_T h q4
      refine sw_bipush X (v := (-4)) (by decide) dX5_meets_19 ?_
      exact sw_iret X hr hlk dX5_meets_21 h
  · have h := ite_T h q3
    refine sw_iconst X (v := (-1)) (by decide) dX5_meets_7 ?_
    exact sw_iret X hr hlk dX5_meets_8 h
theorem dX5_firstFalsePair_0 : decode cX5_firstFalsePair 0 = .ok (.aload_n 0, 1) := by decide +kernel
theorem dX5_firstFalsePair_1 : decode cX5_firstFalsePair 1 = .ok (.getfield 29, 3) := by decide +kernel
theorem dX5_firstFalsePair_4 : decode cX5_firstFalsePair 4 = .ok (.getfield 166, 3) := by decide +kernel
theorem dX5_firstFalsePair_7 : decode cX5_firstFalsePair 7 = .ok (.istore_n 3, 1) := by decide +kernel
theorem dX5_firstFalsePair_8 : decode cX5_firstFalsePair 8 = .ok (.aload_n 0, 1) := by decide +kernel
theorem dX5_firstFalsePair_9 : decode cX5_firstFalsePair 9 = .ok (.getfield 29, 3) := by decide +kernel
theorem dX5_firstFalsePair_12 : decode cX5_firstFalsePair 12 = .ok (.getfield 169, 3) := by decide +kernel
theorem dX5_firstFalsePair_15 : decode cX5_firstFalsePair 15 = .ok (.istore 4, 2) := by decide +kernel
theorem dX5_firstFalsePair_17 : decode cX5_firstFalsePair 17 = .ok (.iconst 0, 1) := by decide +kernel
theorem dX5_firstFalsePair_18 : decode cX5_firstFalsePair 18 = .ok (.istore 5, 2) := by decide +kernel
theorem dX5_firstFalsePair_20 : decode cX5_firstFalsePair 20 = .ok (.iload 5, 2) := by decide +kernel
theorem dX5_firstFalsePair_22 : decode cX5_firstFalsePair 22 = .ok (.iload_n 2, 1) := by decide +kernel
theorem dX5_firstFalsePair_23 : decode cX5_firstFalsePair 23 = .ok (.if_icmp .ge 68, 3) := by decide +kernel
theorem dX5_firstFalsePair_26 : decode cX5_firstFalsePair 26 = .ok (.aload_n 1, 1) := by decide +kernel
theorem dX5_firstFalsePair_27 : decode cX5_firstFalsePair 27 = .ok (.iconst 2, 1) := by decide +kernel
theorem dX5_firstFalsePair_28 : decode cX5_firstFalsePair 28 = .ok (.iload 5, 2) := by decide +kernel
theorem dX5_firstFalsePair_30 : decode cX5_firstFalsePair 30 = .ok (.imul, 1) := by decide +kernel
theorem dX5_firstFalsePair_31 : decode cX5_firstFalsePair 31 = .ok (.iaload, 1) := by decide +kernel
theorem dX5_firstFalsePair_32 : decode cX5_firstFalsePair 32 = .ok (.istore 6, 2) := by decide +kernel
theorem dX5_firstFalsePair_34 : decode cX5_firstFalsePair 34 = .ok (.iload 4, 2) := by decide +kernel
theorem dX5_firstFalsePair_36 : decode cX5_firstFalsePair 36 = .ok (.iload 6, 2) := by decide +kernel
theorem dX5_firstFalsePair_38 : decode cX5_firstFalsePair 38 = .ok (.ishr, 1) := by decide +kernel
theorem dX5_firstFalsePair_39 : decode cX5_firstFalsePair 39 = .ok (.iconst 1, 1) := by decide +kernel
theorem dX5_firstFalsePair_40 : decode cX5_firstFalsePair 40 = .ok (.iand, 1) := by decide +kernel
theorem dX5_firstFalsePair_41 : decode cX5_firstFalsePair 41 = .ok (.iconst 1, 1) := by decide +kernel
theorem dX5_firstFalsePair_42 : decode cX5_firstFalsePair 42 = .ok (.if_icmp .ne 6, 3) := by decide +kernel
theorem dX5_firstFalsePair_45 : decode cX5_firstFalsePair 45 = .ok (.iload 5, 2) := by decide +kernel
theorem dX5_firstFalsePair_47 : decode cX5_firstFalsePair 47 = .ok (.ireturn, 1) := by decide +kernel
theorem dX5_firstFalsePair_48 : decode cX5_firstFalsePair 48 = .ok (.aload_n 0, 1) := by decide +kernel
theorem dX5_firstFalsePair_49 : decode cX5_firstFalsePair 49 = .ok (.getfield 29, 3) := by decide +kernel
theorem dX5_firstFalsePair_52 : decode cX5_firstFalsePair 52 = .ok (.iload 6, 2) := by decide +kernel
theorem dX5_firstFalsePair_54 : decode cX5_firstFalsePair 54 = .ok (.iload_n 3, 1) := by decide +kernel
theorem dX5_firstFalsePair_55 : decode cX5_firstFalsePair 55 = .ok (.iload 4, 2) := by decide +kernel
theorem dX5_firstFalsePair_57 : decode cX5_firstFalsePair 57 = .ok (.invokevirtual 200, 3) := by decide +kernel
theorem dX5_firstFalsePair_60 : decode cX5_firstFalsePair 60 = .ok (.istore_n 3, 1) := by decide +kernel
theorem dX5_firstFalsePair_61 : decode cX5_firstFalsePair 61 = .ok (.iload 4, 2) := by decide +kernel
theorem dX5_firstFalsePair_63 : decode cX5_firstFalsePair 63 = .ok (.iconst 1, 1) := by decide +kernel
theorem dX5_firstFalsePair_64 : decode cX5_firstFalsePair 64 = .ok (.iload 6, 2) := by decide +kernel
theorem dX5_firstFalsePair_66 : decode cX5_firstFalsePair 66 = .ok (.ishl, 1) := by decide +kernel
theorem dX5_firstFalsePair_67 : decode cX5_firstFalsePair 67 = .ok (.ior, 1) := by decide +kernel
theorem dX5_firstFalsePair_68 : decode cX5_firstFalsePair 68 = .ok (.istore 4, 2) := by decide +kernel
theorem dX5_firstFalsePair_70 : decode cX5_firstFalsePair 70 = .ok (.iload_n 3, 1) := by decide +kernel
theorem dX5_firstFalsePair_71 : decode cX5_firstFalsePair 71 = .ok (.aload_n 1, 1) := by decide +kernel
theorem dX5_firstFalsePair_72 : decode cX5_firstFalsePair 72 = .ok (.iconst 2, 1) := by decide +kernel
theorem dX5_firstFalsePair_73 : decode cX5_firstFalsePair 73 = .ok (.iload 5, 2) := by decide +kernel
theorem dX5_firstFalsePair_75 : decode cX5_firstFalsePair 75 = .ok (.imul, 1) := by decide +kernel
theorem dX5_firstFalsePair_76 : decode cX5_firstFalsePair 76 = .ok (.iconst 1, 1) := by decide +kernel
theorem dX5_firstFalsePair_77 : decode cX5_firstFalsePair 77 = .ok (.iadd, 1) := by decide +kernel
theorem dX5_firstFalsePair_78 : decode cX5_firstFalsePair 78 = .ok (.iaload, 1) := by decide +kernel
theorem dX5_firstFalsePair_79 : decode cX5_firstFalsePair 79 = .ok (.if_icmp .eq 6, 3) := by decide +kernel
theorem dX5_firstFalsePair_82 : decode cX5_firstFalsePair 82 = .ok (.iload 5, 2) := by decide +kernel
theorem dX5_firstFalsePair_84 : decode cX5_firstFalsePair 84 = .ok (.ireturn, 1) := by decide +kernel
theorem dX5_firstFalsePair_85 : decode cX5_firstFalsePair 85 = .ok (.iinc 5 1, 3) := by decide +kernel
theorem dX5_firstFalsePair_88 : decode cX5_firstFalsePair 88 = .ok (.goto (-68), 3) := by decide +kernel
theorem dX5_firstFalsePair_91 : decode cX5_firstFalsePair 91 = .ok (.bipush (-9), 2) := by decide +kernel
theorem dX5_firstFalsePair_93 : decode cX5_firstFalsePair 93 = .ok (.ireturn, 1) := by decide +kernel
def j_X5_firstFalsePair (F : Nat) (a : Nat) (a2 : Int32) (st : sw_St) : Option Int32 :=
nm (st.1 15 7) (fun (x1 : Int32) =>
nm (st.1 15 11) (fun (x2 : Int32) =>
lz3 (fun f6 (x3 : Int32) (x4 : Int32) (x5 : Int32) =>
 (if a2 ≤ x5 then (
  some ((-9) : Int32))
 else (
  bnd (2 * x5) (sw_ln a) (
  nm (st.1 a ((2 * x5) : Int32).toNatClampNeg) (fun (x10 : Int32) =>
  (if ((x4 >>> (x10 &&& 31)) &&& 1) = 1 then (
   some (x5 : Int32))
  else (
   bo (j_X4_woundBy F 15 x10 x3 x4 st) (fun (r13 : Int32) =>
   nm (x4 ||| (1 <<< (x10 &&& 31))) (fun (x14 : Int32) =>
   bnd ((2 * x5) + 1) (sw_ln a) (
   (if r13 = (st.1 a (((2 * x5) + 1) : Int32).toNatClampNeg) then (
    nm (x5 + 1) (fun (x17 : Int32) =>
    f6 r13 x14 x17))
   else (
    some (x5 : Int32))))))))))))) F x1 x2 0))
set_option maxHeartbeats 4000000 in
set_option maxRecDepth 100000 in
theorem c_X5_firstFalsePair (F : Nat) {a : Nat} (ha : sw_kd a = 8) (a2 : Int32) (st : sw_St) {r : Int32} (h : j_X5_firstFalsePair F a a2 st = some r) : sw_CI yX5_firstFalsePair (.code yX5_firstFalsePair cX5_firstFalsePair 7 (some .int)) 5 (fun g => [.ref (g.1 0), .ref (g.1 a), .int a2]) st r st := by
  refine sw_entI RX5 (fun g => [(0, .ref (g.1 0)), (1, .ref (g.1 a)), (2, .int a2)]) (by decide) rfl (fun _ => Nat.le_of_ble_eq_true rfl) (fun _ => rfl) ?_
  intro p l e s m args below meth c g X hr hlk
  unfold j_X5_firstFalsePair at h
  refine sw_aload_n X 0 rfl rfl dX5_firstFalsePair_0 ?_
  refine sw_getR X sw_cl5 (show sw_kd 0 = 5 from rfl) (k := 4) rfl (by decide) (o1 := 15) rfl wf_X5_29 dX5_firstFalsePair_1 ?_
  refine sw_getI X sw_cl4 (show sw_kd 15 = 4 from rfl) (k := 7) rfl (by decide) wf_X5_166 dX5_firstFalsePair_4 ?_
  refine sw_topi (fun x1 ex1 => ?_)
  have h := nm_E h ex1
  refine sw_istore_n X [(3, .int x1), (0, .ref (g.1 0)), (1, .ref (g.1 a)), (2, .int a2)] rfl (by decide) rfl dX5_firstFalsePair_7 ?_
  refine sw_aload_n X 1 rfl rfl dX5_firstFalsePair_8 ?_
  refine sw_getR X sw_cl5 (show sw_kd 0 = 5 from rfl) (k := 4) rfl (by decide) (o1 := 15) rfl wf_X5_29 dX5_firstFalsePair_9 ?_
  refine sw_getI X sw_cl4 (show sw_kd 15 = 4 from rfl) (k := 11) rfl (by decide) wf_X5_169 dX5_firstFalsePair_12 ?_
  refine sw_topi (fun x2 ex2 => ?_)
  have h := nm_E h ex2
  refine sw_istore X [(4, .int x2), (3, .int x1), (0, .ref (g.1 0)), (1, .ref (g.1 a)), (2, .int a2)] (by decide) rfl dX5_firstFalsePair_15 ?_
  refine sw_iconst X (v := 0) (by decide) dX5_firstFalsePair_17 ?_
  refine sw_istore X [(5, .int 0), (4, .int x2), (3, .int x1), (0, .ref (g.1 0)), (1, .ref (g.1 a)), (2, .int a2)] (by decide) rfl dX5_firstFalsePair_18 ?_
  refine sw_sub [3, 4, 5, 2, 1, 0] rfl ?_
  refine lz3_E (fun (x3 : Int32) (x4 : Int32) (x5 : Int32) => sw_V p l e 5 s m args below meth c g (sw_A g s.heap.size) (sw_QI below g args s r st) 7 20 [(0, .ref (g.1 0)), (1, .ref (g.1 a)), (2, .int a2), (3, .int x3), (4, .int x4), (5, .int x5)] [] st) h (fun f6 ih7 x3 x4 x5 h => ?_)
  refine sw_iload X 5 rfl dX5_firstFalsePair_20 ?_
  refine sw_iload_n X 2 rfl rfl dX5_firstFalsePair_22 ?_
  refine sw_icmp_ge X 91 (by decide) dX5_firstFalsePair_23 (fun q8 => ?_) (fun q8 => ?_)
  · have h := ite_T h q8
    refine sw_bipush X (v := (-9)) (by decide) dX5_firstFalsePair_91 ?_
    exact sw_iret X hr hlk dX5_firstFalsePair_93 (by cases h; rfl)
  · have h := ite_F h q8
    refine sw_aload_n X 1 rfl rfl dX5_firstFalsePair_26 ?_
    refine sw_iconst X (v := 2) (by decide) dX5_firstFalsePair_27 ?_
    refine sw_iload X 5 rfl dX5_firstFalsePair_28 ?_
    refine sw_imul X dX5_firstFalsePair_30 ?_
    obtain ⟨q9, h⟩ := bnd_E h
    refine sw_iald X (show sw_kd a = 8 from ha) (n := (sw_ln a)) rfl q9 dX5_firstFalsePair_31 ?_
    refine sw_topi (fun x10 ex10 => ?_)
    have h := nm_E h ex10
    refine sw_istore X [(6, .int x10), (0, .ref (g.1 0)), (1, .ref (g.1 a)), (2, .int a2), (3, .int x3), (4, .int x4), (5, .int x5)] (by decide) rfl dX5_firstFalsePair_32 ?_
    refine sw_iload X 5 rfl dX5_firstFalsePair_34 ?_
    refine sw_iload X 0 rfl dX5_firstFalsePair_36 ?_
    refine sw_ishr X dX5_firstFalsePair_38 ?_
    refine sw_iconst X (v := 1) (by decide) dX5_firstFalsePair_39 ?_
    refine sw_iand X dX5_firstFalsePair_40 ?_
    refine sw_iconst X (v := 1) (by decide) dX5_firstFalsePair_41 ?_
    refine sw_icmp_ne X 48 (by decide) dX5_firstFalsePair_42 (fun q11 => ?_) (fun q11 => ?_)
    · have h := ite_F h q11
      refine sw_aload_n X 1 rfl rfl dX5_firstFalsePair_48 ?_
      refine sw_getR X sw_cl5 (show sw_kd 0 = 5 from rfl) (k := 4) rfl (by decide) (o1 := 15) rfl wf_X5_29 dX5_firstFalsePair_49 ?_
      refine sw_iload X 0 rfl dX5_firstFalsePair_52 ?_
      refine sw_iload_n X 4 rfl rfl dX5_firstFalsePair_54 ?_
      refine sw_iload X 5 rfl dX5_firstFalsePair_55 ?_
      obtain ⟨r13, c12, h⟩ := bo_E h
      refine sw_callVI X (o := 15) (As := (fun g => [.int x10, .int x3, .int x4])) sw_cl4 (show sw_kd 15 = 4 from rfl) ws_X4_woundBy (by omega) (c_X4_woundBy F (show sw_kd 15 = 4 from rfl) x10 x3 x4 st c12) rfl rfl (Nat.le_of_ble_eq_true rfl) wm_X5_200 dX5_firstFalsePair_57 ?_
      refine sw_istore_n X [(3, .int r13), (6, .int x10), (0, .ref (g.1 0)), (1, .ref (g.1 a)), (2, .int a2), (4, .int x4), (5, .int x5)] rfl (by decide) rfl dX5_firstFalsePair_60 ?_
      refine sw_iload X 5 rfl dX5_firstFalsePair_61 ?_
      refine sw_iconst X (v := 1) (by decide) dX5_firstFalsePair_63 ?_
      refine sw_iload X 1 rfl dX5_firstFalsePair_64 ?_
      refine sw_ishl X dX5_firstFalsePair_66 ?_
      refine sw_ior X dX5_firstFalsePair_67 ?_
      refine sw_topi (fun x14 ex14 => ?_)
      have h := nm_E h ex14
      refine sw_istore X [(4, .int x14), (3, .int r13), (6, .int x10), (0, .ref (g.1 0)), (1, .ref (g.1 a)), (2, .int a2), (5, .int x5)] (by decide) rfl dX5_firstFalsePair_68 ?_
      refine sw_iload_n X 1 rfl rfl dX5_firstFalsePair_70 ?_
      refine sw_aload_n X 4 rfl rfl dX5_firstFalsePair_71 ?_
      refine sw_iconst X (v := 2) (by decide) dX5_firstFalsePair_72 ?_
      refine sw_iload X 6 rfl dX5_firstFalsePair_73 ?_
      refine sw_imul X dX5_firstFalsePair_75 ?_
      refine sw_iconst X (v := 1) (by decide) dX5_firstFalsePair_76 ?_
      refine sw_iadd X dX5_firstFalsePair_77 ?_
      obtain ⟨q15, h⟩ := bnd_E h
      refine sw_iald X (show sw_kd a = 8 from ha) (n := (sw_ln a)) rfl q15 dX5_firstFalsePair_78 ?_
      refine sw_icmp_eq X 85 (by decide) dX5_firstFalsePair_79 (fun q16 => ?_) (fun q16 => ?_)
      · have h := ite_T h q16
        obtain ⟨x17, ex17⟩ : ∃ y : Int32, y = x5 + 1 := ⟨_, rfl⟩
        have h := nm_E h ex17
        refine sw_iinc X 6 x17 [(5, .int x17), (4, .int x14), (3, .int r13), (6, .int x10), (0, .ref (g.1 0)), (1, .ref (g.1 a)), (2, .int a2)] rfl (by rw [ex17]; rfl) (by decide) rfl dX5_firstFalsePair_85 ?_
        refine sw_goto X 20 (by decide) dX5_firstFalsePair_88 ?_
        refine sw_sub [4, 5, 6, 2, 1, 0] rfl ?_
        exact ih7 _ _ _ h
      · have h := ite_F h q16
        refine sw_iload X 6 rfl dX5_firstFalsePair_82 ?_
        exact sw_iret X hr hlk dX5_firstFalsePair_84 (by cases h; rfl)
    · have h := ite_T h q11
      refine sw_iload X 6 rfl dX5_firstFalsePair_45 ?_
      exact sw_iret X hr hlk dX5_firstFalsePair_47 (by cases h; rfl)
theorem dX5_check_0 : decode cX5_check 0 = .ok (.iload_n 1, 1) := by decide +kernel
theorem dX5_check_1 : decode cX5_check 1 = .ok (.invokestatic 95, 3) := by decide +kernel
theorem dX5_check_4 : decode cX5_check 4 = .ok (.ifCond .ne 5, 3) := by decide +kernel
theorem dX5_check_7 : decode cX5_check 7 = .ok (.iconst (-1), 1) := by decide +kernel
theorem dX5_check_8 : decode cX5_check 8 = .ok (.ireturn, 1) := by decide +kernel
theorem dX5_check_9 : decode cX5_check 9 = .ok (.aload_n 0, 1) := by decide +kernel
theorem dX5_check_10 : decode cX5_check 10 = .ok (.getfield 29, 3) := by decide +kernel
theorem dX5_check_13 : decode cX5_check 13 = .ok (.getfield 134, 3) := by decide +kernel
theorem dX5_check_16 : decode cX5_check 16 = .ok (.ifCond .ne 6, 3) := by decide +kernel
theorem dX5_check_19 : decode cX5_check 19 = .ok (.bipush (-4), 2) := by decide +kernel
theorem dX5_check_21 : decode cX5_check 21 = .ok (.ireturn, 1) := by decide +kernel
theorem dX5_check_22 : decode cX5_check 22 = .ok (.aload_n 0, 1) := by decide +kernel
theorem dX5_check_23 : decode cX5_check 23 = .ok (.getfield 14, 3) := by decide +kernel
theorem dX5_check_26 : decode cX5_check 26 = .ok (.iload_n 1, 1) := by decide +kernel
theorem dX5_check_27 : decode cX5_check 27 = .ok (.iaload, 1) := by decide +kernel
theorem dX5_check_28 : decode cX5_check 28 = .ok (.istore_n 2, 1) := by decide +kernel
theorem dX5_check_29 : decode cX5_check 29 = .ok (.iload_n 2, 1) := by decide +kernel
theorem dX5_check_30 : decode cX5_check 30 = .ok (.ifCond .ge 9, 3) := by decide +kernel
theorem dX5_check_33 : decode cX5_check 33 = .ok (.aload_n 0, 1) := by decide +kernel
theorem dX5_check_34 : decode cX5_check 34 = .ok (.iconst 1, 1) := by decide +kernel
theorem dX5_check_35 : decode cX5_check 35 = .ok (.invokevirtual 99, 3) := by decide +kernel
theorem dX5_check_38 : decode cX5_check 38 = .ok (.ireturn, 1) := by decide +kernel
theorem dX5_check_39 : decode cX5_check 39 = .ok (.iload_n 2, 1) := by decide +kernel
theorem dX5_check_40 : decode cX5_check 40 = .ok (.iconst 2, 1) := by decide +kernel
theorem dX5_check_41 : decode cX5_check 41 = .ok (.irem, 1) := by decide +kernel
theorem dX5_check_42 : decode cX5_check 42 = .ok (.ifCond .eq 9, 3) := by decide +kernel
theorem dX5_check_45 : decode cX5_check 45 = .ok (.aload_n 0, 1) := by decide +kernel
theorem dX5_check_46 : decode cX5_check 46 = .ok (.iconst 5, 1) := by decide +kernel
theorem dX5_check_47 : decode cX5_check 47 = .ok (.invokevirtual 99, 3) := by decide +kernel
theorem dX5_check_50 : decode cX5_check 50 = .ok (.ireturn, 1) := by decide +kernel
theorem dX5_check_51 : decode cX5_check 51 = .ok (.iconst 0, 1) := by decide +kernel
theorem dX5_check_52 : decode cX5_check 52 = .ok (.istore_n 3, 1) := by decide +kernel
theorem dX5_check_53 : decode cX5_check 53 = .ok (.iload_n 3, 1) := by decide +kernel
theorem dX5_check_54 : decode cX5_check 54 = .ok (.iload_n 2, 1) := by decide +kernel
theorem dX5_check_55 : decode cX5_check 55 = .ok (.if_icmp .ge 33, 3) := by decide +kernel
theorem dX5_check_58 : decode cX5_check 58 = .ok (.aload_n 0, 1) := by decide +kernel
theorem dX5_check_59 : decode cX5_check 59 = .ok (.getfield 29, 3) := by decide +kernel
theorem dX5_check_62 : decode cX5_check 62 = .ok (.aload_n 0, 1) := by decide +kernel
theorem dX5_check_63 : decode cX5_check 63 = .ok (.getfield 11, 3) := by decide +kernel
theorem dX5_check_66 : decode cX5_check 66 = .ok (.iload_n 1, 1) := by decide +kernel
theorem dX5_check_67 : decode cX5_check 67 = .ok (.aaload, 1) := by decide +kernel
theorem dX5_check_68 : decode cX5_check 68 = .ok (.iload_n 3, 1) := by decide +kernel
theorem dX5_check_69 : decode cX5_check 69 = .ok (.iaload, 1) := by decide +kernel
theorem dX5_check_70 : decode cX5_check 70 = .ok (.invokevirtual 137, 3) := by decide +kernel
theorem dX5_check_73 : decode cX5_check 73 = .ok (.ifCond .ne 9, 3) := by decide +kernel
theorem dX5_check_76 : decode cX5_check 76 = .ok (.aload_n 0, 1) := by decide +kernel
theorem dX5_check_77 : decode cX5_check 77 = .ok (.iconst 3, 1) := by decide +kernel
theorem dX5_check_78 : decode cX5_check 78 = .ok (.invokevirtual 99, 3) := by decide +kernel
theorem dX5_check_81 : decode cX5_check 81 = .ok (.ireturn, 1) := by decide +kernel
theorem dX5_check_82 : decode cX5_check 82 = .ok (.iinc 3 2, 3) := by decide +kernel
theorem dX5_check_85 : decode cX5_check 85 = .ok (.goto (-32), 3) := by decide +kernel
theorem dX5_check_88 : decode cX5_check 88 = .ok (.aload_n 0, 1) := by decide +kernel
theorem dX5_check_89 : decode cX5_check 89 = .ok (.aload_n 0, 1) := by decide +kernel
theorem dX5_check_90 : decode cX5_check 90 = .ok (.getfield 11, 3) := by decide +kernel
theorem dX5_check_93 : decode cX5_check 93 = .ok (.iload_n 1, 1) := by decide +kernel
theorem dX5_check_94 : decode cX5_check 94 = .ok (.aaload, 1) := by decide +kernel
theorem dX5_check_95 : decode cX5_check 95 = .ok (.iload_n 2, 1) := by decide +kernel
theorem dX5_check_96 : decode cX5_check 96 = .ok (.iconst 2, 1) := by decide +kernel
theorem dX5_check_97 : decode cX5_check 97 = .ok (.idiv, 1) := by decide +kernel
theorem dX5_check_98 : decode cX5_check 98 = .ok (.invokevirtual 304, 3) := by decide +kernel
theorem dX5_check_101 : decode cX5_check 101 = .ok (.ireturn, 1) := by decide +kernel
def j_X5_check (F : Nat) (a1 : Int32) (st : sw_St) : Option (Int32 × sw_St) :=
bo (j_X5_isRow F a1 st) (fun (r2 : Int32) =>
(if r2 = 0 then (
 some (((-1) : Int32), st))
else (
 (if (st.1 15 0) = 0 then (
  some (((-4) : Int32), st))
 else (
  bnd a1 6 (
  nm (st.1 8 (a1 : Int32).toNatClampNeg) (fun (x6 : Int32) =>
  (if 0 ≤ x6 then (
   (if (x6 - x6 / 2 * 2) = 0 then (
    lz1 (fun f10 (x9 : Int32) =>
     (if x6 ≤ x9 then (
      bnd a1 6 (
      bo (j_X5_firstFalsePair F (2 + (a1 : Int32).toNatClampNeg) (x6 / 2) st) (fun (r15 : Int32) =>
      some ((r15 : Int32), st))))
     else (
      bnd a1 6 (
      bnd x9 40 (
      bo (j_X4_has F 15 (st.1 (2 + (a1 : Int32).toNatClampNeg) (x9 : Int32).toNatClampNeg) st) (fun (r19 : Int32) =>
      (if r19 = 0 then (
       bd (j_X5_found F 3 st) (fun (r23 : Int32) (s24 : sw_St) =>
       some ((r23 : Int32), s24)))
      else (
       nm (x9 + 2) (fun (x21 : Int32) =>
       f10 x21))))))))) F 0)
   else (
    bd (j_X5_found F 5 st) (fun (r26 : Int32) (s27 : sw_St) =>
    some ((r26 : Int32), s27)))))
  else (
   bd (j_X5_found F 1 st) (fun (r29 : Int32) (s30 : sw_St) =>
   some ((r29 : Int32), s30)))))))))))
set_option maxHeartbeats 4000000 in
set_option maxRecDepth 100000 in
theorem c_X5_check (F : Nat) (a1 : Int32) (st : sw_St) {r : Int32} {st1 : sw_St} (h : j_X5_check F a1 st = some (r, st1)) : sw_CI yX5_check (.code yX5_check cX5_check 4 (some .int)) 6 (fun g => [.ref (g.1 0), .int a1]) st r st1 := by
  refine sw_entI RX5 (fun g => [(0, .ref (g.1 0)), (1, .int a1)]) (by decide) rfl (fun _ => Nat.le_of_ble_eq_true rfl) (fun _ => rfl) ?_
  intro p l e s m args below meth c g X hr hlk
  unfold j_X5_check at h
  refine sw_iload_n X 1 rfl rfl dX5_check_0 ?_
  obtain ⟨r2, c1, h⟩ := bo_E h
  refine sw_callSI X (As := (fun g => [.int a1])) ws_X5_isRow (by omega) (c_X5_isRow F a1 st c1) rfl rfl (Nat.le_of_ble_eq_true rfl) wm_X5_95 dX5_check_1 ?_
  refine sw_if_ne X 9 (by decide) dX5_check_4 (fun q3 => ?_) (fun q3 => ?_)
  · have h := ite_F h q3
    refine sw_aload_n X 0 rfl rfl dX5_check_9 ?_
    refine sw_getR X sw_cl5 (show sw_kd 0 = 5 from rfl) (k := 4) rfl (by decide) (o1 := 15) rfl wf_X5_29 dX5_check_10 ?_
    refine sw_getI X sw_cl4 (show sw_kd 15 = 4 from rfl) (k := 0) rfl (by decide) wf_X5_134 dX5_check_13 ?_
    refine sw_if_ne X 22 (by decide) dX5_check_16 (fun q4 => ?_) (fun q4 => ?_)
    · have h := ite_F h q4
      refine sw_aload_n X 0 rfl rfl dX5_check_22 ?_
      refine sw_getR X sw_cl5 (show sw_kd 0 = 5 from rfl) (k := 1) rfl (by decide) (o1 := 8) rfl wf_X5_14 dX5_check_23 ?_
      refine sw_iload_n X 1 rfl rfl dX5_check_26 ?_
      obtain ⟨q5, h⟩ := bnd_E h
      refine sw_iald X (show sw_kd 8 = 8 from rfl) (n := 6) rfl q5 dX5_check_27 ?_
      refine sw_topi (fun x6 ex6 => ?_)
      have h := nm_E h ex6
      refine sw_istore_n X [(2, .int x6), (0, .ref (g.1 0)), (1, .int a1)] rfl (by decide) rfl dX5_check_28 ?_
      refine sw_iload_n X 0 rfl rfl dX5_check_29 ?_
      refine sw_if_ge X 39 (by decide) dX5_check_30 (fun q7 => ?_) (fun q7 => ?_)
      · have h := ite_T h q7
        refine sw_iload_n X 0 rfl rfl dX5_check_39 ?_
        refine sw_iconst X (v := 2) (by decide) dX5_check_40 ?_
        refine sw_irem X (by decide) dX5_check_41 ?_
        refine sw_if_eq X 51 (by decide) dX5_check_42 (fun q8 => ?_) (fun q8 => ?_)
        · have h := ite_T h q8
          refine sw_iconst X (v := 0) (by decide) dX5_check_51 ?_
          refine sw_istore_n X [(3, .int 0), (2, .int x6), (0, .ref (g.1 0)), (1, .int a1)] rfl (by decide) rfl dX5_check_52 ?_
          refine sw_sub [2, 3, 1, 0] rfl ?_
          refine lz1_E (fun (x9 : Int32) => sw_V p l e 6 s m args below meth c g (sw_A g s.heap.size) (sw_QI below g args s r st1) 4 53 [(0, .ref (g.1 0)), (1, .int a1), (2, .int x6), (3, .int x9)] [] st) h (fun f10 ih11 x9 h => ?_)
          refine sw_iload_n X 3 rfl rfl dX5_check_53 ?_
          refine sw_iload_n X 2 rfl rfl dX5_check_54 ?_
          refine sw_icmp_ge X 88 (by decide) dX5_check_55 (fun q12 => ?_) (fun q12 => ?_)
          · have h := ite_T h q12
            refine sw_aload_n X 0 rfl rfl dX5_check_88 ?_
            refine sw_aload_n X 0 rfl rfl dX5_check_89 ?_
            refine sw_getR X sw_cl5 (show sw_kd 0 = 5 from rfl) (k := 0) rfl (by decide) (o1 := 1) rfl wf_X5_11 dX5_check_90 ?_
            refine sw_iload_n X 1 rfl rfl dX5_check_93 ?_
            obtain ⟨q13, h⟩ := bnd_E h
            refine sw_aaldI X (show sw_kd 1 = 12 from rfl) (n := 6) rfl q13 (a1 := 2 + (a1 : Int32).toNatClampNeg) rfl dX5_check_94 ?_
            refine sw_iload_n X 2 rfl rfl dX5_check_95 ?_
            refine sw_iconst X (v := 2) (by decide) dX5_check_96 ?_
            refine sw_idiv X (by decide) dX5_check_97 ?_
            obtain ⟨r15, c14, h⟩ := bo_E h
            refine sw_callVI X (o := 0) (As := (fun g => [.ref (g.1 (2 + (a1 : Int32).toNatClampNeg)), .int (x6 / 2)])) sw_cl5 (show sw_kd 0 = 5 from rfl) ws_X5_firstFalsePair (by omega) (c_X5_firstFalsePair F (show sw_kd (2 + (a1 : Int32).toNatClampNeg) = 8 from (sw_rk q13)) (x6 / 2) st c14) rfl rfl (Nat.le_of_ble_eq_true rfl) wm_X5_304 dX5_check_98 ?_
            exact sw_iret X hr hlk dX5_check_101 h
          · have h := ite_F h q12
            refine sw_aload_n X 0 rfl rfl dX5_check_58 ?_
            refine sw_getR X sw_cl5 (show sw_kd 0 = 5 from rfl) (k := 4) rfl (by decide) (o1 := 15) rfl wf_X5_29 dX5_check_59 ?_
            refine sw_aload_n X 0 rfl rfl dX5_check_62 ?_
            refine sw_getR X sw_cl5 (show sw_kd 0 = 5 from rfl) (k := 0) rfl (by decide) (o1 := 1) rfl wf_X5_11 dX5_check_63 ?_
            refine sw_iload_n X 1 rfl rfl dX5_check_66 ?_
            obtain ⟨q16, h⟩ := bnd_E h
            refine sw_aaldI X (show sw_kd 1 = 12 from rfl) (n := 6) rfl q16 (a1 := 2 + (a1 : Int32).toNatClampNeg) rfl dX5_check_67 ?_
            refine sw_iload_n X 3 rfl rfl dX5_check_68 ?_
            obtain ⟨q17, h⟩ := bnd_E h
            refine sw_iald X (show sw_kd (2 + (a1 : Int32).toNatClampNeg) = 8 from (sw_rk q16)) (n := 40) (sw_rn q16) q17 dX5_check_69 ?_
            obtain ⟨r19, c18, h⟩ := bo_E h
            refine sw_callVI X (o := 15) (As := (fun g => [.int (st.1 (2 + (a1 : Int32).toNatClampNeg) (x9 : Int32).toNatClampNeg)])) sw_cl4 (show sw_kd 15 = 4 from rfl) ws_X4_has (by omega) (c_X4_has F (show sw_kd 15 = 4 from rfl) (st.1 (2 + (a1 : Int32).toNatClampNeg) (x9 : Int32).toNatClampNeg) st c18) rfl rfl (Nat.le_of_ble_eq_true rfl) wm_X5_137 dX5_check_70 ?_
            refine sw_if_ne X 82 (by decide) dX5_check_73 (fun q20 => ?_) (fun q20 => ?_)
            · have h := ite_F h q20
              obtain ⟨x21, ex21⟩ : ∃ y : Int32, y = x9 + 2 := ⟨_, rfl⟩
              have h := nm_E h ex21
              refine sw_iinc X 3 x21 [(3, .int x21), (0, .ref (g.1 0)), (1, .int a1), (2, .int x6)] rfl (by rw [ex21]; rfl) (by decide) rfl dX5_check_82 ?_
              refine sw_goto X 53 (by decide) dX5_check_85 ?_
              refine sw_sub [1, 2, 3, 0] rfl ?_
              exact ih11 _ h
            · have h := ite_T h q20
              refine sw_aload_n X 0 rfl rfl dX5_check_76 ?_
              refine sw_iconst X (v := 3) (by decide) dX5_check_77 ?_
              obtain ⟨r23, s24, c22, h⟩ := bd_E h
              refine sw_callVI X (o := 0) (As := (fun g => [.int 3])) sw_cl5 (show sw_kd 0 = 5 from rfl) ws_X5_found (by omega) (c_X5_found F 3 st c22) rfl rfl (Nat.le_of_ble_eq_true rfl) wm_X5_99 dX5_check_78 ?_
              exact sw_iret X hr hlk dX5_check_81 h
        · have h := ite_F h q8
          refine sw_aload_n X 1 rfl rfl dX5_check_45 ?_
          refine sw_iconst X (v := 5) (by decide) dX5_check_46 ?_
          obtain ⟨r26, s27, c25, h⟩ := bd_E h
          refine sw_callVI X (o := 0) (As := (fun g => [.int 5])) sw_cl5 (show sw_kd 0 = 5 from rfl) ws_X5_found (by omega) (c_X5_found F 5 st c25) rfl rfl (Nat.le_of_ble_eq_true rfl) wm_X5_99 dX5_check_47 ?_
          exact sw_iret X hr hlk dX5_check_50 h
      · have h := ite_F h q7
        refine sw_aload_n X 1 rfl rfl dX5_check_33 ?_
        refine sw_iconst X (v := 1) (by decide) dX5_check_34 ?_
        obtain ⟨r29, s30, c28, h⟩ := bd_E h
        refine sw_callVI X (o := 0) (As := (fun g => [.int 1])) sw_cl5 (show sw_kd 0 = 5 from rfl) ws_X5_found (by omega) (c_X5_found F 1 st c28) rfl rfl (Nat.le_of_ble_eq_true rfl) wm_X5_99 dX5_check_35 ?_
        exact sw_iret X hr hlk dX5_check_38 h
    · have h := ite_T h q4
      refine sw_bipush X (v := (-4)) (by decide) dX5_check_19 ?_
      exact sw_iret X hr hlk dX5_check_21 h
  · have h := ite_T h q3
    refine sw_iconst X (v := (-1)) (by decide) dX5_check_7 ?_
    exact sw_iret X hr hlk dX5_check_8 h
theorem dX5_isTwelfth_0 : decode cX5_isTwelfth 0 = .ok (.iload_n 0, 1) := by decide +kernel
theorem dX5_isTwelfth_1 : decode cX5_isTwelfth 1 = .ok (.ifCond .lt 13, 3) := by decide +kernel
theorem dX5_isTwelfth_4 : decode cX5_isTwelfth 4 = .ok (.iload_n 0, 1) := by decide +kernel
theorem dX5_isTwelfth_5 : decode cX5_isTwelfth 5 = .ok (.bipush 12, 2) := by decide +kernel
theorem dX5_isTwelfth_7 : decode cX5_isTwelfth 7 = .ok (.if_icmp .gt 7, 3) := by decide +kernel
theorem dX5_isTwelfth_10 : decode cX5_isTwelfth 10 = .ok (.iconst 1, 1) := by decide +kernel
theorem dX5_isTwelfth_11 : decode cX5_isTwelfth 11 = .ok (.goto 4, 3) := by decide +kernel
theorem dX5_isTwelfth_14 : decode cX5_isTwelfth 14 = .ok (.iconst 0, 1) := by decide +kernel
theorem dX5_isTwelfth_15 : decode cX5_isTwelfth 15 = .ok (.ireturn, 1) := by decide +kernel
def j_X5_isTwelfth (F : Nat) (a1 : Int32) (st : sw_St) : Option Int32 :=
jn (fun (x1 : Int32) => 
  grd (x1 = 0 ∨ x1 = 1) (some (x1 : Int32))) (fun k2 =>
 jn (
   k2 0) (fun k5 =>
  (if a1 < 0 then (
   k5)
  else (
   (if 12 < a1 then (
    k5)
   else (
    k2 1))))))
set_option maxHeartbeats 4000000 in
set_option maxRecDepth 100000 in
theorem c_X5_isTwelfth (F : Nat) (a1 : Int32) (st : sw_St) {r : Int32} (h : j_X5_isTwelfth F a1 st = some r) : sw_CI yX5_isTwelfth (.code yX5_isTwelfth cX5_isTwelfth 1 (some .boolean)) 1 (fun g => [.int a1]) st r st := by
  refine sw_entI RX5 (fun g => [(0, .int a1)]) (by decide) rfl (fun _ => Nat.le_of_ble_eq_true rfl) (fun _ => rfl) ?_
  intro p l e s m args below meth c g X hr hlk
  unfold j_X5_isTwelfth at h
  refine sw_iload_n X 0 rfl rfl dX5_isTwelfth_0 ?_
  refine jn1_E (fun (x1 : Int32) => sw_V p l e 1 s m args below meth c g (sw_A g s.heap.size) (sw_QI below g args s r st) 1 15 [] [.int x1] st) h (fun x1 h => ?_) (fun k2 J3 h => ?_)
  · obtain ⟨q4, h⟩ := grd_E h
    exact sw_zret X hr hlk q4 dX5_isTwelfth_15 (by cases h; rfl)
  · refine jn0_E (sw_V p l e 1 s m args below meth c g (sw_A g s.heap.size) (sw_QI below g args s r st) 1 14 [] [] st) h (fun h => ?_) (fun k5 J6 h => ?_)
    · refine sw_iconst X (v := 0) (by decide) dX5_isTwelfth_14 ?_
      exact J3 _ h
    · refine sw_if_lt X 14 (by decide) dX5_isTwelfth_1 (fun q7 => ?_) (fun q7 => ?_)
      · have h := ite_T h q7
        refine sw_sub [] rfl ?_
        exact J6  h
      · have h := ite_F h q7
        refine sw_iload_n X 0 rfl rfl dX5_isTwelfth_4 ?_
        refine sw_bipush X (v := 12) (by decide) dX5_isTwelfth_5 ?_
        refine sw_icmp_gt X 14 (by decide) dX5_isTwelfth_7 (fun q8 => ?_) (fun q8 => ?_)
        · have h := ite_T h q8
          refine sw_sub [] rfl ?_
          exact J6  h
        · have h := ite_F h q8
          refine sw_iconst X (v := 1) (by decide) dX5_isTwelfth_10 ?_
          refine sw_goto X 15 (by decide) dX5_isTwelfth_11 ?_
          refine sw_sub [] rfl ?_
          exact J3 _ h
theorem dX5_odds_0 : decode cX5_odds 0 = .ok (.iload_n 1, 1) := by decide +kernel
theorem dX5_odds_1 : decode cX5_odds 1 = .ok (.ifCond .lt 16, 3) := by decide +kernel
theorem dX5_odds_4 : decode cX5_odds 4 = .ok (.iload_n 1, 1) := by decide +kernel
theorem dX5_odds_5 : decode cX5_odds 5 = .ok (.bipush 12, 2) := by decide +kernel
theorem dX5_odds_7 : decode cX5_odds 7 = .ok (.if_icmp .gt 10, 3) := by decide +kernel
theorem dX5_odds_10 : decode cX5_odds 10 = .ok (.iload_n 2, 1) := by decide +kernel
theorem dX5_odds_11 : decode cX5_odds 11 = .ok (.invokestatic 308, 3) := by decide +kernel
theorem dX5_odds_14 : decode cX5_odds 14 = .ok (.ifCond .ne 5, 3) := by decide +kernel
theorem dX5_odds_17 : decode cX5_odds 17 = .ok (.iconst (-1), 1) := by decide +kernel
theorem dX5_odds_18 : decode cX5_odds 18 = .ok (.ireturn, 1) := by decide +kernel
theorem dX5_odds_19 : decode cX5_odds 19 = .ok (.aload_n 0, 1) := by decide +kernel
theorem dX5_odds_20 : decode cX5_odds 20 = .ok (.getfield 29, 3) := by decide +kernel
theorem dX5_odds_23 : decode cX5_odds 23 = .ok (.getfield 134, 3) := by decide +kernel
theorem dX5_odds_26 : decode cX5_odds 26 = .ok (.ifCond .ne 6, 3) := by decide +kernel
theorem dX5_odds_29 : decode cX5_odds 29 = .ok (.bipush (-4), 2) := by decide +kernel
theorem dX5_odds_31 : decode cX5_odds 31 = .ok (.ireturn, 1) := by decide +kernel
theorem dX5_odds_32 : decode cX5_odds 32 = .ok (.lconst 0, 1) := by decide +kernel
theorem dX5_odds_33 : decode cX5_odds 33 = .ok (.lstore_n 3, 1) := by decide +kernel
theorem dX5_odds_34 : decode cX5_odds 34 = .ok (.iconst 0, 1) := by decide +kernel
theorem dX5_odds_35 : decode cX5_odds 35 = .ok (.istore 5, 2) := by decide +kernel
theorem dX5_odds_37 : decode cX5_odds 37 = .ok (.iload 5, 2) := by decide +kernel
theorem dX5_odds_39 : decode cX5_odds 39 = .ok (.aload_n 0, 1) := by decide +kernel
theorem dX5_odds_40 : decode cX5_odds 40 = .ok (.getfield 29, 3) := by decide +kernel
theorem dX5_odds_43 : decode cX5_odds 43 = .ok (.invokevirtual 207, 3) := by decide +kernel
theorem dX5_odds_46 : decode cX5_odds 46 = .ok (.if_icmp .ge 55, 3) := by decide +kernel
theorem dX5_odds_49 : decode cX5_odds 49 = .ok (.iload 5, 2) := by decide +kernel
theorem dX5_odds_51 : decode cX5_odds 51 = .ok (.aload_n 0, 1) := by decide +kernel
theorem dX5_odds_52 : decode cX5_odds 52 = .ok (.getfield 29, 3) := by decide +kernel
theorem dX5_odds_55 : decode cX5_odds 55 = .ok (.getfield 169, 3) := by decide +kernel
theorem dX5_odds_58 : decode cX5_odds 58 = .ok (.iand, 1) := by decide +kernel
theorem dX5_odds_59 : decode cX5_odds 59 = .ok (.ifCond .ne 36, 3) := by decide +kernel
theorem dX5_odds_62 : decode cX5_odds 62 = .ok (.aload_n 0, 1) := by decide +kernel
theorem dX5_odds_63 : decode cX5_odds 63 = .ok (.getfield 29, 3) := by decide +kernel
theorem dX5_odds_66 : decode cX5_odds 66 = .ok (.aload_n 0, 1) := by decide +kernel
theorem dX5_odds_67 : decode cX5_odds 67 = .ok (.getfield 29, 3) := by decide +kernel
theorem dX5_odds_70 : decode cX5_odds 70 = .ok (.iload 5, 2) := by decide +kernel
theorem dX5_odds_72 : decode cX5_odds 72 = .ok (.invokevirtual 211, 3) := by decide +kernel
theorem dX5_odds_75 : decode cX5_odds 75 = .ok (.invokevirtual 193, 3) := by decide +kernel
theorem dX5_odds_78 : decode cX5_odds 78 = .ok (.iload_n 1, 1) := by decide +kernel
theorem dX5_odds_79 : decode cX5_odds 79 = .ok (.if_icmp .lt 16, 3) := by decide +kernel
theorem dX5_odds_82 : decode cX5_odds 82 = .ok (.lload_n 3, 1) := by decide +kernel
theorem dX5_odds_83 : decode cX5_odds 83 = .ok (.aload_n 0, 1) := by decide +kernel
theorem dX5_odds_84 : decode cX5_odds 84 = .ok (.getfield 29, 3) := by decide +kernel
theorem dX5_odds_87 : decode cX5_odds 87 = .ok (.iload 5, 2) := by decide +kernel
theorem dX5_odds_89 : decode cX5_odds 89 = .ok (.iload_n 2, 1) := by decide +kernel
theorem dX5_odds_90 : decode cX5_odds 90 = .ok (.invokevirtual 311, 3) := by decide +kernel
theorem dX5_odds_93 : decode cX5_odds 93 = .ok (.ladd, 1) := by decide +kernel
theorem dX5_odds_94 : decode cX5_odds 94 = .ok (.lstore_n 3, 1) := by decide +kernel
theorem dX5_odds_95 : decode cX5_odds 95 = .ok (.iinc 5 1, 3) := by decide +kernel
theorem dX5_odds_98 : decode cX5_odds 98 = .ok (.goto (-61), 3) := by decide +kernel
theorem dX5_odds_101 : decode cX5_odds 101 = .ok (.aload_n 0, 1) := by decide +kernel
theorem dX5_odds_102 : decode cX5_odds 102 = .ok (.lload_n 3, 1) := by decide +kernel
theorem dX5_odds_103 : decode cX5_odds 103 = .ok (.aload_n 0, 1) := by decide +kernel
theorem dX5_odds_104 : decode cX5_odds 104 = .ok (.getfield 29, 3) := by decide +kernel
theorem dX5_odds_107 : decode cX5_odds 107 = .ok (.invokevirtual 315, 3) := by decide +kernel
theorem dX5_odds_110 : decode cX5_odds 110 = .ok (.invokevirtual 242, 3) := by decide +kernel
theorem dX5_odds_113 : decode cX5_odds 113 = .ok (.iconst 1, 1) := by decide +kernel
theorem dX5_odds_114 : decode cX5_odds 114 = .ok (.ireturn, 1) := by decide +kernel
def j_X5_odds (F : Nat) (a1 : Int32) (a2 : Int32) (st : sw_St) : Option (Int32 × sw_St) :=
jn (
  some (((-1) : Int32), st)) (fun k1 =>
 (if a1 < 0 then (
  k1)
 else (
  (if 12 < a1 then (
   k1)
  else (
   bo (j_X5_isTwelfth F a2 st) (fun (r6 : Int32) =>
   (if r6 = 0 then (
    k1)
   else (
    (if (st.1 15 0) = 0 then (
     some (((-4) : Int32), st))
    else (
     lz2 (fun f11 (x9 : Int64) (x10 : Int32) =>
      bo (j_X4_sets F 15 st) (fun (r14 : Int32) =>
      (if r14 ≤ x10 then (
       bo (j_X4_weights F 15 st) (fun (r17 : Int64) =>
       bd (j_X5_tell F x9 r17 st) (fun (_ : Unit) (s19 : sw_St) =>
       some ((1 : Int32), s19))))
      else (
       jn (fun (x21 : Int64) => 
         nm (x10 + 1) (fun (x24 : Int32) =>
         f11 x21 x24)) (fun k22 =>
        (if (x10 &&& (st.1 15 11)) = 0 then (
         bo (j_X4_woundBySet F 15 x10 st) (fun (r27 : Int32) =>
         bo (j_X4_hoursLeft F 15 r27 st) (fun (r29 : Int32) =>
         (if r29 < a1 then (
          k22 x9)
         else (
          bo (j_X4_weight F 15 x10 a2 st) (fun (r32 : Int64) =>
          nm (x9 + r32) (fun (x33 : Int64) =>
          k22 x33)))))))
        else (
         k22 x9))))))) F 0 0))))))))))
set_option maxHeartbeats 4000000 in
set_option maxRecDepth 100000 in
theorem c_X5_odds (F : Nat) (a1 : Int32) (a2 : Int32) (st : sw_St) {r : Int32} {st1 : sw_St} (h : j_X5_odds F a1 a2 st = some (r, st1)) : sw_CI yX5_odds (.code yX5_odds cX5_odds 6 (some .int)) 6 (fun g => [.ref (g.1 0), .int a1, .int a2]) st r st1 := by
  refine sw_entI RX5 (fun g => [(0, .ref (g.1 0)), (1, .int a1), (2, .int a2)]) (by decide) rfl (fun _ => Nat.le_of_ble_eq_true rfl) (fun _ => rfl) ?_
  intro p l e s m args below meth c g X hr hlk
  unfold j_X5_odds at h
  refine sw_iload_n X 1 rfl rfl dX5_odds_0 ?_
  refine jn0_E (sw_V p l e 6 s m args below meth c g (sw_A g s.heap.size) (sw_QI below g args s r st1) 6 17 [] [] st) h (fun h => ?_) (fun k1 J2 h => ?_)
  · refine sw_iconst X (v := (-1)) (by decide) dX5_odds_17 ?_
    exact sw_iret X hr hlk dX5_odds_18 h
  · refine sw_if_lt X 17 (by decide) dX5_odds_1 (fun q3 => ?_) (fun q3 => ?_)
    · have h := ite_T h q3
      refine sw_sub [] rfl ?_
      exact J2  h
    · have h := ite_F h q3
      refine sw_iload_n X 1 rfl rfl dX5_odds_4 ?_
      refine sw_bipush X (v := 12) (by decide) dX5_odds_5 ?_
      refine sw_icmp_gt X 17 (by decide) dX5_odds_7 (fun q4 => ?_) (fun q4 => ?_)
      · have h := ite_T h q4
        refine sw_sub [] rfl ?_
        exact J2  h
      · have h := ite_F h q4
        refine sw_iload_n X 2 rfl rfl dX5_odds_10 ?_
        obtain ⟨r6, c5, h⟩ := bo_E h
        refine sw_callSI X (As := (fun g => [.int a2])) ws_X5_isTwelfth (by omega) (c_X5_isTwelfth F a2 st c5) rfl rfl (Nat.le_of_ble_eq_true rfl) wm_X5_308 dX5_odds_11 ?_
        refine sw_if_ne X 19 (by decide) dX5_odds_14 (fun q7 => ?_) (fun q7 => ?_)
        · have h := ite_F h q7
          refine sw_aload_n X 0 rfl rfl dX5_odds_19 ?_
          refine sw_getR X sw_cl5 (show sw_kd 0 = 5 from rfl) (k := 4) rfl (by decide) (o1 := 15) rfl wf_X5_29 dX5_odds_20 ?_
          refine sw_getI X sw_cl4 (show sw_kd 15 = 4 from rfl) (k := 0) rfl (by decide) wf_X5_134 dX5_odds_23 ?_
          refine sw_if_ne X 32 (by decide) dX5_odds_26 (fun q8 => ?_) (fun q8 => ?_)
          · have h := ite_F h q8
            refine sw_lconst X (v := 0) (by decide) dX5_odds_32 ?_
            refine sw_lstore_n X [(3, .long 0), (0, .ref (g.1 0)), (1, .int a1), (2, .int a2)] rfl (by decide) rfl dX5_odds_33 ?_
            refine sw_iconst X (v := 0) (by decide) dX5_odds_34 ?_
            refine sw_istore X [(5, .int 0), (3, .long 0), (0, .ref (g.1 0)), (1, .int a1), (2, .int a2)] (by decide) rfl dX5_odds_35 ?_
            refine sw_sub [2, 3, 4, 1, 0] rfl ?_
            refine lz2_E (fun (x9 : Int64) (x10 : Int32) => sw_V p l e 6 s m args below meth c g (sw_A g s.heap.size) (sw_QI below g args s r st1) 6 37 [(0, .ref (g.1 0)), (1, .int a1), (2, .int a2), (3, .long x9), (5, .int x10)] [] st) h (fun f11 ih12 x9 x10 h => ?_)
            refine sw_iload X 4 rfl dX5_odds_37 ?_
            refine sw_aload_n X 0 rfl rfl dX5_odds_39 ?_
            refine sw_getR X sw_cl5 (show sw_kd 0 = 5 from rfl) (k := 4) rfl (by decide) (o1 := 15) rfl wf_X5_29 dX5_odds_40 ?_
            obtain ⟨r14, c13, h⟩ := bo_E h
            refine sw_callVI X (o := 15) (As := (fun g => [])) sw_cl4 (show sw_kd 15 = 4 from rfl) ws_X4_sets (by omega) (c_X4_sets F (show sw_kd 15 = 4 from rfl) st c13) rfl rfl (Nat.le_of_ble_eq_true rfl) wm_X5_207 dX5_odds_43 ?_
            refine sw_icmp_ge X 101 (by decide) dX5_odds_46 (fun q15 => ?_) (fun q15 => ?_)
            · have h := ite_T h q15
              refine sw_aload_n X 0 rfl rfl dX5_odds_101 ?_
              refine sw_lload_n X 3 rfl rfl dX5_odds_102 ?_
              refine sw_aload_n X 0 rfl rfl dX5_odds_103 ?_
              refine sw_getR X sw_cl5 (show sw_kd 0 = 5 from rfl) (k := 4) rfl (by decide) (o1 := 15) rfl wf_X5_29 dX5_odds_104 ?_
              obtain ⟨r17, c16, h⟩ := bo_E h
              refine sw_callVL X (o := 15) (As := (fun g => [])) sw_cl4 (show sw_kd 15 = 4 from rfl) ws_X4_weights (by omega) (c_X4_weights F (show sw_kd 15 = 4 from rfl) st c16) rfl rfl (Nat.le_of_ble_eq_true rfl) wm_X5_315 dX5_odds_107 ?_
              obtain ⟨u20, s19, c18, h⟩ := bd_E h
              refine sw_callVV X (o := 0) (As := (fun g => [.long x9, .long r17])) sw_cl5 (show sw_kd 0 = 5 from rfl) ws_X5_tell (by omega) (c_X5_tell F x9 r17 st c18) rfl rfl (Nat.le_of_ble_eq_true rfl) wm_X5_242 dX5_odds_110 ?_
              refine sw_iconst X (v := 1) (by decide) dX5_odds_113 ?_
              exact sw_iret X hr hlk dX5_odds_114 h
            · have h := ite_F h q15
              refine sw_iload X 4 rfl dX5_odds_49 ?_
              refine sw_aload_n X 0 rfl rfl dX5_odds_51 ?_
              refine sw_getR X sw_cl5 (show sw_kd 0 = 5 from rfl) (k := 4) rfl (by decide) (o1 := 15) rfl wf_X5_29 dX5_odds_52 ?_
              refine sw_getI X sw_cl4 (show sw_kd 15 = 4 from rfl) (k := 11) rfl (by decide) wf_X5_169 dX5_odds_55 ?_
              refine sw_iand X dX5_odds_58 ?_
              refine jn1_E (fun (x21 : Int64) => sw_V p l e 6 s m args below meth c g (sw_A g s.heap.size) (sw_QI below g args s r st1) 6 95 [(0, .ref (g.1 0)), (1, .int a1), (2, .int a2), (3, .long x21), (5, .int x10)] [] st) h (fun x21 h => ?_) (fun k22 J23 h => ?_)
              · obtain ⟨x24, ex24⟩ : ∃ y : Int32, y = x10 + 1 := ⟨_, rfl⟩
                have h := nm_E h ex24
                refine sw_iinc X 4 x24 [(5, .int x24), (0, .ref (g.1 0)), (1, .int a1), (2, .int a2), (3, .long x21)] rfl (by rw [ex24]; rfl) (by decide) rfl dX5_odds_95 ?_
                refine sw_goto X 37 (by decide) dX5_odds_98 ?_
                refine sw_sub [1, 2, 3, 4, 0] rfl ?_
                exact ih12 _ _ h
              · refine sw_if_ne X 95 (by decide) dX5_odds_59 (fun q25 => ?_) (fun q25 => ?_)
                · have h := ite_F h q25
                  exact J23 _ h
                · have h := ite_T h q25
                  refine sw_aload_n X 0 rfl rfl dX5_odds_62 ?_
                  refine sw_getR X sw_cl5 (show sw_kd 0 = 5 from rfl) (k := 4) rfl (by decide) (o1 := 15) rfl wf_X5_29 dX5_odds_63 ?_
                  refine sw_aload_n X 0 rfl rfl dX5_odds_66 ?_
                  refine sw_getR X sw_cl5 (show sw_kd 0 = 5 from rfl) (k := 4) rfl (by decide) (o1 := 15) rfl wf_X5_29 dX5_odds_67 ?_
                  refine sw_iload X 4 rfl dX5_odds_70 ?_
                  obtain ⟨r27, c26, h⟩ := bo_E h
                  refine sw_callVI X (o := 15) (As := (fun g => [.int x10])) sw_cl4 (show sw_kd 15 = 4 from rfl) ws_X4_woundBySet (by omega) (c_X4_woundBySet F (show sw_kd 15 = 4 from rfl) x10 st c26) rfl rfl (Nat.le_of_ble_eq_true rfl) wm_X5_211 dX5_odds_72 ?_
                  obtain ⟨r29, c28, h⟩ := bo_E h
                  refine sw_callVI X (o := 15) (As := (fun g => [.int r27])) sw_cl4 (show sw_kd 15 = 4 from rfl) ws_X4_hoursLeft (by omega) (c_X4_hoursLeft F (show sw_kd 15 = 4 from rfl) r27 st c28) rfl rfl (Nat.le_of_ble_eq_true rfl) wm_X5_193 dX5_odds_75 ?_
                  refine sw_iload_n X 1 rfl rfl dX5_odds_78 ?_
                  refine sw_icmp_lt X 95 (by decide) dX5_odds_79 (fun q30 => ?_) (fun q30 => ?_)
                  · have h := ite_T h q30
                    exact J23 _ h
                  · have h := ite_F h q30
                    refine sw_lload_n X 3 rfl rfl dX5_odds_82 ?_
                    refine sw_aload_n X 0 rfl rfl dX5_odds_83 ?_
                    refine sw_getR X sw_cl5 (show sw_kd 0 = 5 from rfl) (k := 4) rfl (by decide) (o1 := 15) rfl wf_X5_29 dX5_odds_84 ?_
                    refine sw_iload X 4 rfl dX5_odds_87 ?_
                    refine sw_iload_n X 2 rfl rfl dX5_odds_89 ?_
                    obtain ⟨r32, c31, h⟩ := bo_E h
                    refine sw_callVL X (o := 15) (As := (fun g => [.int x10, .int a2])) sw_cl4 (show sw_kd 15 = 4 from rfl) ws_X4_weight (by omega) (c_X4_weight F (show sw_kd 15 = 4 from rfl) x10 a2 st c31) rfl rfl (Nat.le_of_ble_eq_true rfl) wm_X5_311 dX5_odds_90 ?_
                    refine sw_ladd X dX5_odds_93 ?_
                    refine sw_topl (fun x33 ex33 => ?_)
                    have h := nm_E h ex33
                    refine sw_lstore_n X [(3, .long x33), (0, .ref (g.1 0)), (1, .int a1), (2, .int a2), (5, .int x10)] rfl (by decide) rfl dX5_odds_94 ?_
                    refine sw_sub [1, 2, 3, 0, 4] rfl ?_
                    exact J23 _ h
          · have h := ite_T h q8
            refine sw_bipush X (v := (-4)) (by decide) dX5_odds_29 ?_
            exact sw_iret X hr hlk dX5_odds_31 h
        · have h := ite_T h q7
          refine sw_sub [] rfl ?_
          exact J2  h
theorem dX5_mid_0 : decode cX5_mid 0 = .ok (.iload_n 1, 1) := by decide +kernel
theorem dX5_mid_1 : decode cX5_mid 1 = .ok (.invokestatic 308, 3) := by decide +kernel
theorem dX5_mid_4 : decode cX5_mid 4 = .ok (.ifCond .ne 5, 3) := by decide +kernel
theorem dX5_mid_7 : decode cX5_mid 7 = .ok (.iconst (-1), 1) := by decide +kernel
theorem dX5_mid_8 : decode cX5_mid 8 = .ok (.ireturn, 1) := by decide +kernel
theorem dX5_mid_9 : decode cX5_mid 9 = .ok (.aload_n 0, 1) := by decide +kernel
theorem dX5_mid_10 : decode cX5_mid 10 = .ok (.getfield 29, 3) := by decide +kernel
theorem dX5_mid_13 : decode cX5_mid 13 = .ok (.getfield 134, 3) := by decide +kernel
theorem dX5_mid_16 : decode cX5_mid 16 = .ok (.ifCond .ne 6, 3) := by decide +kernel
theorem dX5_mid_19 : decode cX5_mid 19 = .ok (.bipush (-4), 2) := by decide +kernel
theorem dX5_mid_21 : decode cX5_mid 21 = .ok (.ireturn, 1) := by decide +kernel
theorem dX5_mid_22 : decode cX5_mid 22 = .ok (.lconst 0, 1) := by decide +kernel
theorem dX5_mid_23 : decode cX5_mid 23 = .ok (.lstore_n 2, 1) := by decide +kernel
theorem dX5_mid_24 : decode cX5_mid 24 = .ok (.iconst 0, 1) := by decide +kernel
theorem dX5_mid_25 : decode cX5_mid 25 = .ok (.istore 4, 2) := by decide +kernel
theorem dX5_mid_27 : decode cX5_mid 27 = .ok (.iload 4, 2) := by decide +kernel
theorem dX5_mid_29 : decode cX5_mid 29 = .ok (.aload_n 0, 1) := by decide +kernel
theorem dX5_mid_30 : decode cX5_mid 30 = .ok (.getfield 29, 3) := by decide +kernel
theorem dX5_mid_33 : decode cX5_mid 33 = .ok (.invokevirtual 207, 3) := by decide +kernel
theorem dX5_mid_36 : decode cX5_mid 36 = .ok (.if_icmp .ge 46, 3) := by decide +kernel
theorem dX5_mid_39 : decode cX5_mid 39 = .ok (.iload 4, 2) := by decide +kernel
theorem dX5_mid_41 : decode cX5_mid 41 = .ok (.aload_n 0, 1) := by decide +kernel
theorem dX5_mid_42 : decode cX5_mid 42 = .ok (.getfield 29, 3) := by decide +kernel
theorem dX5_mid_45 : decode cX5_mid 45 = .ok (.getfield 169, 3) := by decide +kernel
theorem dX5_mid_48 : decode cX5_mid 48 = .ok (.iand, 1) := by decide +kernel
theorem dX5_mid_49 : decode cX5_mid 49 = .ok (.ifCond .ne 27, 3) := by decide +kernel
theorem dX5_mid_52 : decode cX5_mid 52 = .ok (.lload_n 2, 1) := by decide +kernel
theorem dX5_mid_53 : decode cX5_mid 53 = .ok (.aload_n 0, 1) := by decide +kernel
theorem dX5_mid_54 : decode cX5_mid 54 = .ok (.getfield 29, 3) := by decide +kernel
theorem dX5_mid_57 : decode cX5_mid 57 = .ok (.iload 4, 2) := by decide +kernel
theorem dX5_mid_59 : decode cX5_mid 59 = .ok (.iload_n 1, 1) := by decide +kernel
theorem dX5_mid_60 : decode cX5_mid 60 = .ok (.invokevirtual 311, 3) := by decide +kernel
theorem dX5_mid_63 : decode cX5_mid 63 = .ok (.aload_n 0, 1) := by decide +kernel
theorem dX5_mid_64 : decode cX5_mid 64 = .ok (.getfield 29, 3) := by decide +kernel
theorem dX5_mid_67 : decode cX5_mid 67 = .ok (.iload 4, 2) := by decide +kernel
theorem dX5_mid_69 : decode cX5_mid 69 = .ok (.invokevirtual 211, 3) := by decide +kernel
theorem dX5_mid_72 : decode cX5_mid 72 = .ok (.i2l, 1) := by decide +kernel
theorem dX5_mid_73 : decode cX5_mid 73 = .ok (.lmul, 1) := by decide +kernel
theorem dX5_mid_74 : decode cX5_mid 74 = .ok (.ladd, 1) := by decide +kernel
theorem dX5_mid_75 : decode cX5_mid 75 = .ok (.lstore_n 2, 1) := by decide +kernel
theorem dX5_mid_76 : decode cX5_mid 76 = .ok (.iinc 4 1, 3) := by decide +kernel
theorem dX5_mid_79 : decode cX5_mid 79 = .ok (.goto (-52), 3) := by decide +kernel
theorem dX5_mid_82 : decode cX5_mid 82 = .ok (.aload_n 0, 1) := by decide +kernel
theorem dX5_mid_83 : decode cX5_mid 83 = .ok (.lload_n 2, 1) := by decide +kernel
theorem dX5_mid_84 : decode cX5_mid 84 = .ok (.aload_n 0, 1) := by decide +kernel
theorem dX5_mid_85 : decode cX5_mid 85 = .ok (.getfield 29, 3) := by decide +kernel
theorem dX5_mid_88 : decode cX5_mid 88 = .ok (.invokevirtual 315, 3) := by decide +kernel
theorem dX5_mid_91 : decode cX5_mid 91 = .ok (.invokevirtual 242, 3) := by decide +kernel
theorem dX5_mid_94 : decode cX5_mid 94 = .ok (.iconst 1, 1) := by decide +kernel
theorem dX5_mid_95 : decode cX5_mid 95 = .ok (.ireturn, 1) := by decide +kernel
def j_X5_mid (F : Nat) (a1 : Int32) (st : sw_St) : Option (Int32 × sw_St) :=
bo (j_X5_isTwelfth F a1 st) (fun (r2 : Int32) =>
(if r2 = 0 then (
 some (((-1) : Int32), st))
else (
 (if (st.1 15 0) = 0 then (
  some (((-4) : Int32), st))
 else (
  lz2 (fun f7 (x5 : Int64) (x6 : Int32) =>
   bo (j_X4_sets F 15 st) (fun (r10 : Int32) =>
   (if r10 ≤ x6 then (
    bo (j_X4_weights F 15 st) (fun (r13 : Int64) =>
    bd (j_X5_tell F x5 r13 st) (fun (_ : Unit) (s15 : sw_St) =>
    some ((1 : Int32), s15))))
   else (
    jn (fun (x17 : Int64) => 
      nm (x6 + 1) (fun (x20 : Int32) =>
      f7 x17 x20)) (fun k18 =>
     (if (x6 &&& (st.1 15 11)) = 0 then (
      bo (j_X4_weight F 15 x6 a1 st) (fun (r23 : Int64) =>
      bo (j_X4_woundBySet F 15 x6 st) (fun (r25 : Int32) =>
      nm (x5 + (r23 * ((r25 : Int32).toInt64))) (fun (x26 : Int64) =>
      k18 x26))))
     else (
      k18 x5))))))) F 0 0)))))
set_option maxHeartbeats 4000000 in
set_option maxRecDepth 100000 in
theorem c_X5_mid (F : Nat) (a1 : Int32) (st : sw_St) {r : Int32} {st1 : sw_St} (h : j_X5_mid F a1 st = some (r, st1)) : sw_CI yX5_mid (.code yX5_mid cX5_mid 5 (some .int)) 6 (fun g => [.ref (g.1 0), .int a1]) st r st1 := by
  refine sw_entI RX5 (fun g => [(0, .ref (g.1 0)), (1, .int a1)]) (by decide) rfl (fun _ => Nat.le_of_ble_eq_true rfl) (fun _ => rfl) ?_
  intro p l e s m args below meth c g X hr hlk
  unfold j_X5_mid at h
  refine sw_iload_n X 1 rfl rfl dX5_mid_0 ?_
  obtain ⟨r2, c1, h⟩ := bo_E h
  refine sw_callSI X (As := (fun g => [.int a1])) ws_X5_isTwelfth (by omega) (c_X5_isTwelfth F a1 st c1) rfl rfl (Nat.le_of_ble_eq_true rfl) wm_X5_308 dX5_mid_1 ?_
  refine sw_if_ne X 9 (by decide) dX5_mid_4 (fun q3 => ?_) (fun q3 => ?_)
  · have h := ite_F h q3
    refine sw_aload_n X 0 rfl rfl dX5_mid_9 ?_
    refine sw_getR X sw_cl5 (show sw_kd 0 = 5 from rfl) (k := 4) rfl (by decide) (o1 := 15) rfl wf_X5_29 dX5_mid_10 ?_
    refine sw_getI X sw_cl4 (show sw_kd 15 = 4 from rfl) (k := 0) rfl (by decide) wf_X5_134 dX5_mid_13 ?_
    refine sw_if_ne X 22 (by decide) dX5_mid_16 (fun q4 => ?_) (fun q4 => ?_)
    · have h := ite_F h q4
      refine sw_lconst X (v := 0) (by decide) dX5_mid_22 ?_
      refine sw_lstore_n X [(2, .long 0), (0, .ref (g.1 0)), (1, .int a1)] rfl (by decide) rfl dX5_mid_23 ?_
      refine sw_iconst X (v := 0) (by decide) dX5_mid_24 ?_
      refine sw_istore X [(4, .int 0), (2, .long 0), (0, .ref (g.1 0)), (1, .int a1)] (by decide) rfl dX5_mid_25 ?_
      refine sw_sub [2, 3, 1, 0] rfl ?_
      refine lz2_E (fun (x5 : Int64) (x6 : Int32) => sw_V p l e 6 s m args below meth c g (sw_A g s.heap.size) (sw_QI below g args s r st1) 5 27 [(0, .ref (g.1 0)), (1, .int a1), (2, .long x5), (4, .int x6)] [] st) h (fun f7 ih8 x5 x6 h => ?_)
      refine sw_iload X 3 rfl dX5_mid_27 ?_
      refine sw_aload_n X 0 rfl rfl dX5_mid_29 ?_
      refine sw_getR X sw_cl5 (show sw_kd 0 = 5 from rfl) (k := 4) rfl (by decide) (o1 := 15) rfl wf_X5_29 dX5_mid_30 ?_
      obtain ⟨r10, c9, h⟩ := bo_E h
      refine sw_callVI X (o := 15) (As := (fun g => [])) sw_cl4 (show sw_kd 15 = 4 from rfl) ws_X4_sets (by omega) (c_X4_sets F (show sw_kd 15 = 4 from rfl) st c9) rfl rfl (Nat.le_of_ble_eq_true rfl) wm_X5_207 dX5_mid_33 ?_
      refine sw_icmp_ge X 82 (by decide) dX5_mid_36 (fun q11 => ?_) (fun q11 => ?_)
      · have h := ite_T h q11
        refine sw_aload_n X 0 rfl rfl dX5_mid_82 ?_
        refine sw_lload_n X 2 rfl rfl dX5_mid_83 ?_
        refine sw_aload_n X 0 rfl rfl dX5_mid_84 ?_
        refine sw_getR X sw_cl5 (show sw_kd 0 = 5 from rfl) (k := 4) rfl (by decide) (o1 := 15) rfl wf_X5_29 dX5_mid_85 ?_
        obtain ⟨r13, c12, h⟩ := bo_E h
        refine sw_callVL X (o := 15) (As := (fun g => [])) sw_cl4 (show sw_kd 15 = 4 from rfl) ws_X4_weights (by omega) (c_X4_weights F (show sw_kd 15 = 4 from rfl) st c12) rfl rfl (Nat.le_of_ble_eq_true rfl) wm_X5_315 dX5_mid_88 ?_
        obtain ⟨u16, s15, c14, h⟩ := bd_E h
        refine sw_callVV X (o := 0) (As := (fun g => [.long x5, .long r13])) sw_cl5 (show sw_kd 0 = 5 from rfl) ws_X5_tell (by omega) (c_X5_tell F x5 r13 st c14) rfl rfl (Nat.le_of_ble_eq_true rfl) wm_X5_242 dX5_mid_91 ?_
        refine sw_iconst X (v := 1) (by decide) dX5_mid_94 ?_
        exact sw_iret X hr hlk dX5_mid_95 h
      · have h := ite_F h q11
        refine sw_iload X 3 rfl dX5_mid_39 ?_
        refine sw_aload_n X 0 rfl rfl dX5_mid_41 ?_
        refine sw_getR X sw_cl5 (show sw_kd 0 = 5 from rfl) (k := 4) rfl (by decide) (o1 := 15) rfl wf_X5_29 dX5_mid_42 ?_
        refine sw_getI X sw_cl4 (show sw_kd 15 = 4 from rfl) (k := 11) rfl (by decide) wf_X5_169 dX5_mid_45 ?_
        refine sw_iand X dX5_mid_48 ?_
        refine jn1_E (fun (x17 : Int64) => sw_V p l e 6 s m args below meth c g (sw_A g s.heap.size) (sw_QI below g args s r st1) 5 76 [(0, .ref (g.1 0)), (1, .int a1), (2, .long x17), (4, .int x6)] [] st) h (fun x17 h => ?_) (fun k18 J19 h => ?_)
        · obtain ⟨x20, ex20⟩ : ∃ y : Int32, y = x6 + 1 := ⟨_, rfl⟩
          have h := nm_E h ex20
          refine sw_iinc X 3 x20 [(4, .int x20), (0, .ref (g.1 0)), (1, .int a1), (2, .long x17)] rfl (by rw [ex20]; rfl) (by decide) rfl dX5_mid_76 ?_
          refine sw_goto X 27 (by decide) dX5_mid_79 ?_
          refine sw_sub [1, 2, 3, 0] rfl ?_
          exact ih8 _ _ h
        · refine sw_if_ne X 76 (by decide) dX5_mid_49 (fun q21 => ?_) (fun q21 => ?_)
          · have h := ite_F h q21
            exact J19 _ h
          · have h := ite_T h q21
            refine sw_lload_n X 2 rfl rfl dX5_mid_52 ?_
            refine sw_aload_n X 0 rfl rfl dX5_mid_53 ?_
            refine sw_getR X sw_cl5 (show sw_kd 0 = 5 from rfl) (k := 4) rfl (by decide) (o1 := 15) rfl wf_X5_29 dX5_mid_54 ?_
            refine sw_iload X 3 rfl dX5_mid_57 ?_
            refine sw_iload_n X 1 rfl rfl dX5_mid_59 ?_
            obtain ⟨r23, c22, h⟩ := bo_E h
            refine sw_callVL X (o := 15) (As := (fun g => [.int x6, .int a1])) sw_cl4 (show sw_kd 15 = 4 from rfl) ws_X4_weight (by omega) (c_X4_weight F (show sw_kd 15 = 4 from rfl) x6 a1 st c22) rfl rfl (Nat.le_of_ble_eq_true rfl) wm_X5_311 dX5_mid_60 ?_
            refine sw_aload_n X 0 rfl rfl dX5_mid_63 ?_
            refine sw_getR X sw_cl5 (show sw_kd 0 = 5 from rfl) (k := 4) rfl (by decide) (o1 := 15) rfl wf_X5_29 dX5_mid_64 ?_
            refine sw_iload X 3 rfl dX5_mid_67 ?_
            obtain ⟨r25, c24, h⟩ := bo_E h
            refine sw_callVI X (o := 15) (As := (fun g => [.int x6])) sw_cl4 (show sw_kd 15 = 4 from rfl) ws_X4_woundBySet (by omega) (c_X4_woundBySet F (show sw_kd 15 = 4 from rfl) x6 st c24) rfl rfl (Nat.le_of_ble_eq_true rfl) wm_X5_211 dX5_mid_69 ?_
            refine sw_i2l X dX5_mid_72 ?_
            refine sw_lmul X dX5_mid_73 ?_
            refine sw_ladd X dX5_mid_74 ?_
            refine sw_topl (fun x26 ex26 => ?_)
            have h := nm_E h ex26
            refine sw_lstore_n X [(2, .long x26), (0, .ref (g.1 0)), (1, .int a1), (4, .int x6)] rfl (by decide) rfl dX5_mid_75 ?_
            refine sw_sub [1, 2, 0, 3] rfl ?_
            exact J19 _ h
    · have h := ite_T h q4
      refine sw_bipush X (v := (-4)) (by decide) dX5_mid_19 ?_
      exact sw_iret X hr hlk dX5_mid_21 h
  · have h := ite_T h q3
    refine sw_iconst X (v := (-1)) (by decide) dX5_mid_7 ?_
    exact sw_iret X hr hlk dX5_mid_8 h
theorem dX5_noteLot_0 : decode cX5_noteLot 0 = .ok (.lload_n 1, 1) := by decide +kernel
theorem dX5_noteLot_1 : decode cX5_noteLot 1 = .ok (.ldc2_w 355, 3) := by decide +kernel
theorem dX5_noteLot_4 : decode cX5_noteLot 4 = .ok (.lrem, 1) := by decide +kernel
theorem dX5_noteLot_5 : decode cX5_noteLot 5 = .ok (.lconst 0, 1) := by decide +kernel
theorem dX5_noteLot_6 : decode cX5_noteLot 6 = .ok (.lcmp, 1) := by decide +kernel
theorem dX5_noteLot_7 : decode cX5_noteLot 7 = .ok (.ifCond .ne 13, 3) := by decide +kernel
theorem dX5_noteLot_10 : decode cX5_noteLot 10 = .ok (.aload_n 0, 1) := by decide +kernel
theorem dX5_noteLot_11 : decode cX5_noteLot 11 = .ok (.getfield 29, 3) := by decide +kernel
theorem dX5_noteLot_14 : decode cX5_noteLot 14 = .ok (.iconst 2, 1) := by decide +kernel
theorem dX5_noteLot_15 : decode cX5_noteLot 15 = .ok (.iconst 0, 1) := by decide +kernel
theorem dX5_noteLot_16 : decode cX5_noteLot 16 = .ok (.invokevirtual 162, 3) := by decide +kernel
theorem dX5_noteLot_19 : decode cX5_noteLot 19 = .ok (.return_, 1) := by decide +kernel
theorem dX5_noteLot_20 : decode cX5_noteLot 20 = .ok (.lload_n 1, 1) := by decide +kernel
theorem dX5_noteLot_21 : decode cX5_noteLot 21 = .ok (.ldc2_w 357, 3) := by decide +kernel
theorem dX5_noteLot_24 : decode cX5_noteLot 24 = .ok (.ldiv, 1) := by decide +kernel
theorem dX5_noteLot_25 : decode cX5_noteLot 25 = .ok (.aload_n 0, 1) := by decide +kernel
theorem dX5_noteLot_26 : decode cX5_noteLot 26 = .ok (.getfield 29, 3) := by decide +kernel
theorem dX5_noteLot_29 : decode cX5_noteLot 29 = .ok (.getfield 134, 3) := by decide +kernel
theorem dX5_noteLot_32 : decode cX5_noteLot 32 = .ok (.i2l, 1) := by decide +kernel
theorem dX5_noteLot_33 : decode cX5_noteLot 33 = .ok (.lrem, 1) := by decide +kernel
theorem dX5_noteLot_34 : decode cX5_noteLot 34 = .ok (.l2i, 1) := by decide +kernel
theorem dX5_noteLot_35 : decode cX5_noteLot 35 = .ok (.istore_n 3, 1) := by decide +kernel
theorem dX5_noteLot_36 : decode cX5_noteLot 36 = .ok (.aload_n 0, 1) := by decide +kernel
theorem dX5_noteLot_37 : decode cX5_noteLot 37 = .ok (.getfield 29, 3) := by decide +kernel
theorem dX5_noteLot_40 : decode cX5_noteLot 40 = .ok (.aload_n 0, 1) := by decide +kernel
theorem dX5_noteLot_41 : decode cX5_noteLot 41 = .ok (.getfield 29, 3) := by decide +kernel
theorem dX5_noteLot_44 : decode cX5_noteLot 44 = .ok (.iload_n 3, 1) := by decide +kernel
theorem dX5_noteLot_45 : decode cX5_noteLot 45 = .ok (.invokevirtual 156, 3) := by decide +kernel
theorem dX5_noteLot_48 : decode cX5_noteLot 48 = .ok (.ifCond .eq 7, 3) := by decide +kernel
theorem dX5_noteLot_51 : decode cX5_noteLot 51 = .ok (.iconst 1, 1) := by decide +kernel
theorem dX5_noteLot_52 : decode cX5_noteLot 52 = .ok (.goto 4, 3) := by decide +kernel
theorem dX5_noteLot_55 : decode cX5_noteLot 55 = .ok (.iconst 0, 1) := by decide +kernel
theorem dX5_noteLot_56 : decode cX5_noteLot 56 = .ok (.iload_n 3, 1) := by decide +kernel
theorem dX5_noteLot_57 : decode cX5_noteLot 57 = .ok (.invokevirtual 162, 3) := by decide +kernel
theorem dX5_noteLot_60 : decode cX5_noteLot 60 = .ok (.return_, 1) := by decide +kernel
def j_X5_noteLot (F : Nat) (a1 : Int64) (st : sw_St) : Option (Unit × sw_St) :=
(if (lg_cmp (a1 - a1 / 3 * 3) 0) = 0 then (
 bd (j_X4_note F 15 2 0 st) (fun (_ : Unit) (s14 : sw_St) =>
 some ((), s14)))
else (
 grd (¬ (((st.1 15 0) : Int32).toInt64) = 0) (
 nm ((((a1 / 8) - (a1 / 8) / (((st.1 15 0) : Int32).toInt64) * (((st.1 15 0) : Int32).toInt64)) : Int64).toInt32) (fun (x3 : Int32) =>
 bo (j_X4_isIn F 15 x3 st) (fun (r5 : Int32) =>
 jn (fun (x6 : Int32) => 
   bd (j_X4_note F 15 x6 x3 st) (fun (_ : Unit) (s10 : sw_St) =>
   some ((), s10))) (fun k7 =>
  (if r5 = 0 then (
   k7 0)
  else (
   k7 1))))))))
set_option maxHeartbeats 4000000 in
set_option maxRecDepth 100000 in
theorem c_X5_noteLot (F : Nat) (a1 : Int64) (st : sw_St) {st1 : sw_St} (h : j_X5_noteLot F a1 st = some ((), st1)) : sw_CV yX5_noteLot (.code yX5_noteLot cX5_noteLot 4 none) 7 (fun g => [.ref (g.1 0), .long a1]) st  st1 := by
  refine sw_entV RX5 (fun g => [(0, .ref (g.1 0)), (1, .long a1)]) (by decide) rfl (fun _ => Nat.le_of_ble_eq_true rfl) (fun _ => rfl) ?_
  intro p l e s m args below meth c g X hr hlk
  unfold j_X5_noteLot at h
  refine sw_lload_n X 1 rfl rfl dX5_noteLot_0 ?_
  refine sw_ldc2 X (v := 3) wl_X5_355 dX5_noteLot_1 ?_
  refine sw_lrem X (by decide) dX5_noteLot_4 ?_
  refine sw_lconst X (v := 0) (by decide) dX5_noteLot_5 ?_
  refine sw_lcmp X dX5_noteLot_6 ?_
  refine sw_if_ne X 20 (by decide) dX5_noteLot_7 (fun q1 => ?_) (fun q1 => ?_)
  · have h := ite_F h q1
    refine sw_lload_n X 1 rfl rfl dX5_noteLot_20 ?_
    refine sw_ldc2 X (v := 8) wl_X5_357 dX5_noteLot_21 ?_
    refine sw_ldiv X (by decide) dX5_noteLot_24 ?_
    refine sw_aload_n X 0 rfl rfl dX5_noteLot_25 ?_
    refine sw_getR X sw_cl5 (show sw_kd 0 = 5 from rfl) (k := 4) rfl (by decide) (o1 := 15) rfl wf_X5_29 dX5_noteLot_26 ?_
    refine sw_getI X sw_cl4 (show sw_kd 15 = 4 from rfl) (k := 0) rfl (by decide) wf_X5_134 dX5_noteLot_29 ?_
    refine sw_i2l X dX5_noteLot_32 ?_
    obtain ⟨q2, h⟩ := grd_E h
    refine sw_lrem X q2 dX5_noteLot_33 ?_
    refine sw_l2i X dX5_noteLot_34 ?_
    refine sw_topi (fun x3 ex3 => ?_)
    have h := nm_E h ex3
    refine sw_istore_n X [(3, .int x3), (0, .ref (g.1 0)), (1, .long a1)] rfl (by decide) rfl dX5_noteLot_35 ?_
    refine sw_aload_n X 1 rfl rfl dX5_noteLot_36 ?_
    refine sw_getR X sw_cl5 (show sw_kd 0 = 5 from rfl) (k := 4) rfl (by decide) (o1 := 15) rfl wf_X5_29 dX5_noteLot_37 ?_
    refine sw_aload_n X 1 rfl rfl dX5_noteLot_40 ?_
    refine sw_getR X sw_cl5 (show sw_kd 0 = 5 from rfl) (k := 4) rfl (by decide) (o1 := 15) rfl wf_X5_29 dX5_noteLot_41 ?_
    refine sw_iload_n X 0 rfl rfl dX5_noteLot_44 ?_
    obtain ⟨r5, c4, h⟩ := bo_E h
    refine sw_callVI X (o := 15) (As := (fun g => [.int x3])) sw_cl4 (show sw_kd 15 = 4 from rfl) ws_X4_isIn (by omega) (c_X4_isIn F (show sw_kd 15 = 4 from rfl) x3 st c4) rfl rfl (Nat.le_of_ble_eq_true rfl) wm_X5_156 dX5_noteLot_45 ?_
    refine jn1_E (fun (x6 : Int32) => sw_V p l e 7 s m args below meth c g (sw_A g s.heap.size) (sw_QV below g args s  st1) 4 56 [(3, .int x3)] [.int x6, .ref (g.1 15)] st) h (fun x6 h => ?_) (fun k7 J8 h => ?_)
    · refine sw_iload_n X 0 rfl rfl dX5_noteLot_56 ?_
      obtain ⟨u11, s10, c9, h⟩ := bd_E h
      refine sw_callVV X (o := 15) (As := (fun g => [.int x6, .int x3])) sw_cl4 (show sw_kd 15 = 4 from rfl) ws_X4_note (by omega) (c_X4_note F (show sw_kd 15 = 4 from rfl) x6 x3 st c9) rfl rfl (Nat.le_of_ble_eq_true rfl) wm_X5_162 dX5_noteLot_57 ?_
      exact sw_vret X hr hlk dX5_noteLot_60 h
    · refine sw_if_eq X 55 (by decide) dX5_noteLot_48 (fun q12 => ?_) (fun q12 => ?_)
      · have h := ite_T h q12
        refine sw_iconst X (v := 0) (by decide) dX5_noteLot_55 ?_
        refine sw_sub [0] rfl ?_
        exact J8 _ h
      · have h := ite_F h q12
        refine sw_iconst X (v := 1) (by decide) dX5_noteLot_51 ?_
        refine sw_goto X 56 (by decide) dX5_noteLot_52 ?_
        refine sw_sub [0] rfl ?_
        exact J8 _ h
  · have h := ite_T h q1
    refine sw_aload_n X 0 rfl rfl dX5_noteLot_10 ?_
    refine sw_getR X sw_cl5 (show sw_kd 0 = 5 from rfl) (k := 4) rfl (by decide) (o1 := 15) rfl wf_X5_29 dX5_noteLot_11 ?_
    refine sw_iconst X (v := 2) (by decide) dX5_noteLot_14 ?_
    refine sw_iconst X (v := 0) (by decide) dX5_noteLot_15 ?_
    obtain ⟨u15, s14, c13, h⟩ := bd_E h
    refine sw_callVV X (o := 15) (As := (fun g => [.int 2, .int 0])) sw_cl4 (show sw_kd 15 = 4 from rfl) ws_X4_note (by omega) (c_X4_note F (show sw_kd 15 = 4 from rfl) 2 0 st c13) rfl rfl (Nat.le_of_ble_eq_true rfl) wm_X5_162 dX5_noteLot_16 ?_
    exact sw_vret X hr hlk dX5_noteLot_19 h
theorem dX5_lots_0 : decode cX5_lots 0 = .ok (.iload_n 1, 1) := by decide +kernel
theorem dX5_lots_1 : decode cX5_lots 1 = .ok (.iconst 1, 1) := by decide +kernel
theorem dX5_lots_2 : decode cX5_lots 2 = .ok (.if_icmp .lt 23, 3) := by decide +kernel
theorem dX5_lots_5 : decode cX5_lots 5 = .ok (.iload_n 1, 1) := by decide +kernel
theorem dX5_lots_6 : decode cX5_lots 6 = .ok (.bipush 20, 2) := by decide +kernel
theorem dX5_lots_8 : decode cX5_lots 8 = .ok (.if_icmp .gt 17, 3) := by decide +kernel
theorem dX5_lots_11 : decode cX5_lots 11 = .ok (.iload_n 2, 1) := by decide +kernel
theorem dX5_lots_12 : decode cX5_lots 12 = .ok (.iconst 1, 1) := by decide +kernel
theorem dX5_lots_13 : decode cX5_lots 13 = .ok (.if_icmp .lt 12, 3) := by decide +kernel
theorem dX5_lots_16 : decode cX5_lots 16 = .ok (.iload_n 2, 1) := by decide +kernel
theorem dX5_lots_17 : decode cX5_lots 17 = .ok (.i2l, 1) := by decide +kernel
theorem dX5_lots_18 : decode cX5_lots 18 = .ok (.ldc2_w 319, 3) := by decide +kernel
theorem dX5_lots_21 : decode cX5_lots 21 = .ok (.lcmp, 1) := by decide +kernel
theorem dX5_lots_22 : decode cX5_lots 22 = .ok (.ifCond .lt 5, 3) := by decide +kernel
theorem dX5_lots_25 : decode cX5_lots 25 = .ok (.iconst (-1), 1) := by decide +kernel
theorem dX5_lots_26 : decode cX5_lots 26 = .ok (.ireturn, 1) := by decide +kernel
theorem dX5_lots_27 : decode cX5_lots 27 = .ok (.aload_n 0, 1) := by decide +kernel
theorem dX5_lots_28 : decode cX5_lots 28 = .ok (.getfield 29, 3) := by decide +kernel
theorem dX5_lots_31 : decode cX5_lots 31 = .ok (.getfield 134, 3) := by decide +kernel
theorem dX5_lots_34 : decode cX5_lots 34 = .ok (.ifCond .ne 6, 3) := by decide +kernel
theorem dX5_lots_37 : decode cX5_lots 37 = .ok (.bipush (-4), 2) := by decide +kernel
theorem dX5_lots_39 : decode cX5_lots 39 = .ok (.ireturn, 1) := by decide +kernel
theorem dX5_lots_40 : decode cX5_lots 40 = .ok (.aload_n 0, 1) := by decide +kernel
theorem dX5_lots_41 : decode cX5_lots 41 = .ok (.getfield 29, 3) := by decide +kernel
theorem dX5_lots_44 : decode cX5_lots 44 = .ok (.iload_n 1, 1) := by decide +kernel
theorem dX5_lots_45 : decode cX5_lots 45 = .ok (.invokevirtual 159, 3) := by decide +kernel
theorem dX5_lots_48 : decode cX5_lots 48 = .ok (.ifCond .eq 6, 3) := by decide +kernel
theorem dX5_lots_51 : decode cX5_lots 51 = .ok (.bipush (-2), 2) := by decide +kernel
theorem dX5_lots_53 : decode cX5_lots 53 = .ok (.ireturn, 1) := by decide +kernel
theorem dX5_lots_54 : decode cX5_lots 54 = .ok (.iload_n 2, 1) := by decide +kernel
theorem dX5_lots_55 : decode cX5_lots 55 = .ok (.i2l, 1) := by decide +kernel
theorem dX5_lots_56 : decode cX5_lots 56 = .ok (.lstore_n 3, 1) := by decide +kernel
theorem dX5_lots_57 : decode cX5_lots 57 = .ok (.iconst 0, 1) := by decide +kernel
theorem dX5_lots_58 : decode cX5_lots 58 = .ok (.istore 5, 2) := by decide +kernel
theorem dX5_lots_60 : decode cX5_lots 60 = .ok (.iload 5, 2) := by decide +kernel
theorem dX5_lots_62 : decode cX5_lots 62 = .ok (.iload_n 1, 1) := by decide +kernel
theorem dX5_lots_63 : decode cX5_lots 63 = .ok (.if_icmp .ge 24, 3) := by decide +kernel
theorem dX5_lots_66 : decode cX5_lots 66 = .ok (.ldc2_w 321, 3) := by decide +kernel
theorem dX5_lots_69 : decode cX5_lots 69 = .ok (.lload_n 3, 1) := by decide +kernel
theorem dX5_lots_70 : decode cX5_lots 70 = .ok (.lmul, 1) := by decide +kernel
theorem dX5_lots_71 : decode cX5_lots 71 = .ok (.ldc2_w 319, 3) := by decide +kernel
theorem dX5_lots_74 : decode cX5_lots 74 = .ok (.lrem, 1) := by decide +kernel
theorem dX5_lots_75 : decode cX5_lots 75 = .ok (.lstore_n 3, 1) := by decide +kernel
theorem dX5_lots_76 : decode cX5_lots 76 = .ok (.aload_n 0, 1) := by decide +kernel
theorem dX5_lots_77 : decode cX5_lots 77 = .ok (.lload_n 3, 1) := by decide +kernel
theorem dX5_lots_78 : decode cX5_lots 78 = .ok (.invokevirtual 323, 3) := by decide +kernel
theorem dX5_lots_81 : decode cX5_lots 81 = .ok (.iinc 5 1, 3) := by decide +kernel
theorem dX5_lots_84 : decode cX5_lots 84 = .ok (.goto (-24), 3) := by decide +kernel
theorem dX5_lots_87 : decode cX5_lots 87 = .ok (.aload_n 0, 1) := by decide +kernel
theorem dX5_lots_88 : decode cX5_lots 88 = .ok (.getfield 29, 3) := by decide +kernel
theorem dX5_lots_91 : decode cX5_lots 91 = .ok (.getfield 166, 3) := by decide +kernel
theorem dX5_lots_94 : decode cX5_lots 94 = .ok (.ireturn, 1) := by decide +kernel
def j_X5_lots (F : Nat) (a1 : Int32) (a2 : Int32) (st : sw_St) : Option (Int32 × sw_St) :=
jn (
  some (((-1) : Int32), st)) (fun k1 =>
 (if a1 < 1 then (
  k1)
 else (
  (if 20 < a1 then (
   k1)
  else (
   (if a2 < 1 then (
    k1)
   else (
    (if (lg_cmp ((a2 : Int32).toInt64) 2147483647) < 0 then (
     (if (st.1 15 0) = 0 then (
      some (((-4) : Int32), st))
     else (
      bo (j_X4_isFull F 15 a1 st) (fun (r9 : Int32) =>
      (if r9 = 0 then (
       nm ((a2 : Int32).toInt64) (fun (x11 : Int64) =>
       lz3 (fun f15 (x12 : Int64) (x13 : Int32) (s14 : sw_St) =>
        (if a1 ≤ x13 then (
         some ((s14.1 15 7 : Int32), s14))
        else (
         nm ((48271 * x12) - (48271 * x12) / 2147483647 * 2147483647) (fun (x18 : Int64) =>
         bd (j_X5_noteLot F x18 s14) (fun (_ : Unit) (s20 : sw_St) =>
         nm (x13 + 1) (fun (x21 : Int32) =>
         f15 x18 x21 s20)))))) F x11 0 st))
      else (
       some (((-2) : Int32), st)))))))
    else (
     k1)))))))))
set_option maxHeartbeats 4000000 in
set_option maxRecDepth 100000 in
theorem c_X5_lots (F : Nat) (a1 : Int32) (a2 : Int32) (st : sw_St) {r : Int32} {st1 : sw_St} (h : j_X5_lots F a1 a2 st = some (r, st1)) : sw_CI yX5_lots (.code yX5_lots cX5_lots 6 (some .int)) 8 (fun g => [.ref (g.1 0), .int a1, .int a2]) st r st1 := by
  refine sw_entI RX5 (fun g => [(0, .ref (g.1 0)), (1, .int a1), (2, .int a2)]) (by decide) rfl (fun _ => Nat.le_of_ble_eq_true rfl) (fun _ => rfl) ?_
  intro p l e s m args below meth c g X hr hlk
  unfold j_X5_lots at h
  refine sw_iload_n X 1 rfl rfl dX5_lots_0 ?_
  refine sw_iconst X (v := 1) (by decide) dX5_lots_1 ?_
  refine jn0_E (sw_V p l e 8 s m args below meth c g (sw_A g s.heap.size) (sw_QI below g args s r st1) 6 25 [] [] st) h (fun h => ?_) (fun k1 J2 h => ?_)
  · refine sw_iconst X (v := (-1)) (by decide) dX5_lots_25 ?_
    exact sw_iret X hr hlk dX5_lots_26 h
  · refine sw_icmp_lt X 25 (by decide) dX5_lots_2 (fun q3 => ?_) (fun q3 => ?_)
    · have h := ite_T h q3
      refine sw_sub [] rfl ?_
      exact J2  h
    · have h := ite_F h q3
      refine sw_iload_n X 1 rfl rfl dX5_lots_5 ?_
      refine sw_bipush X (v := 20) (by decide) dX5_lots_6 ?_
      refine sw_icmp_gt X 25 (by decide) dX5_lots_8 (fun q4 => ?_) (fun q4 => ?_)
      · have h := ite_T h q4
        refine sw_sub [] rfl ?_
        exact J2  h
      · have h := ite_F h q4
        refine sw_iload_n X 2 rfl rfl dX5_lots_11 ?_
        refine sw_iconst X (v := 1) (by decide) dX5_lots_12 ?_
        refine sw_icmp_lt X 25 (by decide) dX5_lots_13 (fun q5 => ?_) (fun q5 => ?_)
        · have h := ite_T h q5
          refine sw_sub [] rfl ?_
          exact J2  h
        · have h := ite_F h q5
          refine sw_iload_n X 2 rfl rfl dX5_lots_16 ?_
          refine sw_i2l X dX5_lots_17 ?_
          refine sw_ldc2 X (v := 2147483647) wl_X5_319 dX5_lots_18 ?_
          refine sw_lcmp X dX5_lots_21 ?_
          refine sw_if_lt X 27 (by decide) dX5_lots_22 (fun q6 => ?_) (fun q6 => ?_)
          · have h := ite_T h q6
            refine sw_aload_n X 0 rfl rfl dX5_lots_27 ?_
            refine sw_getR X sw_cl5 (show sw_kd 0 = 5 from rfl) (k := 4) rfl (by decide) (o1 := 15) rfl wf_X5_29 dX5_lots_28 ?_
            refine sw_getI X sw_cl4 (show sw_kd 15 = 4 from rfl) (k := 0) rfl (by decide) wf_X5_134 dX5_lots_31 ?_
            refine sw_if_ne X 40 (by decide) dX5_lots_34 (fun q7 => ?_) (fun q7 => ?_)
            · have h := ite_F h q7
              refine sw_aload_n X 0 rfl rfl dX5_lots_40 ?_
              refine sw_getR X sw_cl5 (show sw_kd 0 = 5 from rfl) (k := 4) rfl (by decide) (o1 := 15) rfl wf_X5_29 dX5_lots_41 ?_
              refine sw_iload_n X 1 rfl rfl dX5_lots_44 ?_
              obtain ⟨r9, c8, h⟩ := bo_E h
              refine sw_callVI X (o := 15) (As := (fun g => [.int a1])) sw_cl4 (show sw_kd 15 = 4 from rfl) ws_X4_isFull (by omega) (c_X4_isFull F (show sw_kd 15 = 4 from rfl) a1 st c8) rfl rfl (Nat.le_of_ble_eq_true rfl) wm_X5_159 dX5_lots_45 ?_
              refine sw_if_eq X 54 (by decide) dX5_lots_48 (fun q10 => ?_) (fun q10 => ?_)
              · have h := ite_T h q10
                refine sw_iload_n X 2 rfl rfl dX5_lots_54 ?_
                refine sw_i2l X dX5_lots_55 ?_
                refine sw_topl (fun x11 ex11 => ?_)
                have h := nm_E h ex11
                refine sw_lstore_n X [(3, .long x11), (0, .ref (g.1 0)), (1, .int a1), (2, .int a2)] rfl (by decide) rfl dX5_lots_56 ?_
                refine sw_iconst X (v := 0) (by decide) dX5_lots_57 ?_
                refine sw_istore X [(5, .int 0), (3, .long x11), (0, .ref (g.1 0)), (1, .int a1), (2, .int a2)] (by decide) rfl dX5_lots_58 ?_
                refine sw_sub [2, 3, 1, 0] rfl ?_
                refine lz3_E (fun (x12 : Int64) (x13 : Int32) (s14 : sw_St) => sw_V p l e 8 s m args below meth c g (sw_A g s.heap.size) (sw_QI below g args s r st1) 6 60 [(0, .ref (g.1 0)), (1, .int a1), (3, .long x12), (5, .int x13)] [] s14) h (fun f15 ih16 x12 x13 s14 h => ?_)
                refine sw_iload X 3 rfl dX5_lots_60 ?_
                refine sw_iload_n X 1 rfl rfl dX5_lots_62 ?_
                refine sw_icmp_ge X 87 (by decide) dX5_lots_63 (fun q17 => ?_) (fun q17 => ?_)
                · have h := ite_T h q17
                  refine sw_aload_n X 0 rfl rfl dX5_lots_87 ?_
                  refine sw_getR X sw_cl5 (show sw_kd 0 = 5 from rfl) (k := 4) rfl (by decide) (o1 := 15) rfl wf_X5_29 dX5_lots_88 ?_
                  refine sw_getI X sw_cl4 (show sw_kd 15 = 4 from rfl) (k := 7) rfl (by decide) wf_X5_166 dX5_lots_91 ?_
                  exact sw_iret X hr hlk dX5_lots_94 h
                · have h := ite_F h q17
                  refine sw_ldc2 X (v := 48271) wl_X5_321 dX5_lots_66 ?_
                  refine sw_lload_n X 2 rfl rfl dX5_lots_69 ?_
                  refine sw_lmul X dX5_lots_70 ?_
                  refine sw_ldc2 X (v := 2147483647) wl_X5_319 dX5_lots_71 ?_
                  refine sw_lrem X (by decide) dX5_lots_74 ?_
                  refine sw_topl (fun x18 ex18 => ?_)
                  have h := nm_E h ex18
                  refine sw_lstore_n X [(3, .long x18), (0, .ref (g.1 0)), (1, .int a1), (5, .int x13)] rfl (by decide) rfl dX5_lots_75 ?_
                  refine sw_aload_n X 1 rfl rfl dX5_lots_76 ?_
                  refine sw_lload_n X 0 rfl rfl dX5_lots_77 ?_
                  obtain ⟨u22, s20, c19, h⟩ := bd_E h
                  refine sw_callVV X (o := 0) (As := (fun g => [.long x18])) sw_cl5 (show sw_kd 0 = 5 from rfl) ws_X5_noteLot (by omega) (c_X5_noteLot F x18 s14 c19) rfl rfl (Nat.le_of_ble_eq_true rfl) wm_X5_323 dX5_lots_78 ?_
                  obtain ⟨x21, ex21⟩ : ∃ y : Int32, y = x13 + 1 := ⟨_, rfl⟩
                  have h := nm_E h ex21
                  refine sw_iinc X 3 x21 [(5, .int x21), (3, .long x18), (0, .ref (g.1 0)), (1, .int a1)] rfl (by rw [ex21]; rfl) (by decide) rfl dX5_lots_81 ?_
                  refine sw_goto X 60 (by decide) dX5_lots_84 ?_
                  refine sw_sub [2, 3, 1, 0] rfl ?_
                  exact ih16 _ _ _ h
              · have h := ite_F h q10
                refine sw_bipush X (v := (-2)) (by decide) dX5_lots_51 ?_
                exact sw_iret X hr hlk dX5_lots_53 h
            · have h := ite_T h q7
              refine sw_bipush X (v := (-4)) (by decide) dX5_lots_37 ?_
              exact sw_iret X hr hlk dX5_lots_39 h
          · have h := ite_F h q6
            refine sw_sub [] rfl ?_
            exact J2  h
theorem dX5_asked_0 : decode cX5_asked 0 = .ok (.aload_n 0, 1) := by decide +kernel
theorem dX5_asked_1 : decode cX5_asked 1 = .ok (.getfield 79, 3) := by decide +kernel
theorem dX5_asked_4 : decode cX5_asked 4 = .ok (.ireturn, 1) := by decide +kernel
def j_X5_asked (F : Nat) (st : sw_St) : Option Int32 :=
some (st.1 0 14 : Int32)
set_option maxHeartbeats 4000000 in
set_option maxRecDepth 100000 in
theorem c_X5_asked (F : Nat) (st : sw_St) {r : Int32} (h : j_X5_asked F  st = some r) : sw_CI yX5_asked (.code yX5_asked cX5_asked 1 (some .int)) 1 (fun g => [.ref (g.1 0)]) st r st := by
  refine sw_entI RX5 (fun g => [(0, .ref (g.1 0))]) (by decide) rfl (fun _ => Nat.le_of_ble_eq_true rfl) (fun _ => rfl) ?_
  intro p l e s m args below meth c g X hr hlk
  unfold j_X5_asked at h
  refine sw_aload_n X 0 rfl rfl dX5_asked_0 ?_
  refine sw_getI X sw_cl5 (show sw_kd 0 = 5 from rfl) (k := 14) rfl (by decide) wf_X5_79 dX5_asked_1 ?_
  exact sw_iret X hr hlk dX5_asked_4 (by cases h; rfl)
theorem dX5_upper_0 : decode cX5_upper 0 = .ok (.aload_n 0, 1) := by decide +kernel
theorem dX5_upper_1 : decode cX5_upper 1 = .ok (.getfield 82, 3) := by decide +kernel
theorem dX5_upper_4 : decode cX5_upper 4 = .ok (.lreturn, 1) := by decide +kernel
def j_X5_upper (F : Nat) (st : sw_St) : Option Int64 :=
some (st.2.1 0 15 : Int64)
set_option maxHeartbeats 4000000 in
set_option maxRecDepth 100000 in
theorem c_X5_upper (F : Nat) (st : sw_St) {r : Int64} (h : j_X5_upper F  st = some r) : sw_CL yX5_upper (.code yX5_upper cX5_upper 1 (some .long)) 1 (fun g => [.ref (g.1 0)]) st r st := by
  refine sw_entL RX5 (fun g => [(0, .ref (g.1 0))]) (by decide) rfl (fun _ => Nat.le_of_ble_eq_true rfl) (fun _ => rfl) ?_
  intro p l e s m args below meth c g X hr hlk
  unfold j_X5_upper at h
  refine sw_aload_n X 0 rfl rfl dX5_upper_0 ?_
  refine sw_getL X sw_cl5 (show sw_kd 0 = 5 from rfl) (k := 15) rfl (by decide) wf_X5_82 dX5_upper_1 ?_
  exact sw_lret X hr hlk dX5_upper_4 (by cases h; rfl)
theorem dX5_lower_0 : decode cX5_lower 0 = .ok (.aload_n 0, 1) := by decide +kernel
theorem dX5_lower_1 : decode cX5_lower 1 = .ok (.getfield 86, 3) := by decide +kernel
theorem dX5_lower_4 : decode cX5_lower 4 = .ok (.lreturn, 1) := by decide +kernel
def j_X5_lower (F : Nat) (st : sw_St) : Option Int64 :=
some (st.2.1 0 16 : Int64)
set_option maxHeartbeats 4000000 in
set_option maxRecDepth 100000 in
theorem c_X5_lower (F : Nat) (st : sw_St) {r : Int64} (h : j_X5_lower F  st = some r) : sw_CL yX5_lower (.code yX5_lower cX5_lower 1 (some .long)) 1 (fun g => [.ref (g.1 0)]) st r st := by
  refine sw_entL RX5 (fun g => [(0, .ref (g.1 0))]) (by decide) rfl (fun _ => Nat.le_of_ble_eq_true rfl) (fun _ => rfl) ?_
  intro p l e s m args below meth c g X hr hlk
  unfold j_X5_lower at h
  refine sw_aload_n X 0 rfl rfl dX5_lower_0 ?_
  refine sw_getL X sw_cl5 (show sw_kd 0 = 5 from rfl) (k := 16) rfl (by decide) wf_X5_86 dX5_lower_1 ?_
  exact sw_lret X hr hlk dX5_lower_4 (by cases h; rfl)
