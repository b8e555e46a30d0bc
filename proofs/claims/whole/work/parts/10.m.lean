theorem dJ7_fill_53178_0 : decode cJ7_fill_53178 0 = .ok (.iconst 0, 1) := by decide +kernel
theorem dJ7_fill_53178_1 : decode cJ7_fill_53178 1 = .ok (.istore_n 2, 1) := by decide +kernel
theorem dJ7_fill_53178_2 : decode cJ7_fill_53178 2 = .ok (.aload_n 0, 1) := by decide +kernel
theorem dJ7_fill_53178_3 : decode cJ7_fill_53178 3 = .ok (.arraylength, 1) := by decide +kernel
theorem dJ7_fill_53178_4 : decode cJ7_fill_53178 4 = .ok (.istore_n 3, 1) := by decide +kernel
theorem dJ7_fill_53178_5 : decode cJ7_fill_53178 5 = .ok (.iload_n 2, 1) := by decide +kernel
theorem dJ7_fill_53178_6 : decode cJ7_fill_53178 6 = .ok (.iload_n 3, 1) := by decide +kernel
theorem dJ7_fill_53178_7 : decode cJ7_fill_53178 7 = .ok (.if_icmp .ge 13, 3) := by decide +kernel
theorem dJ7_fill_53178_10 : decode cJ7_fill_53178 10 = .ok (.aload_n 0, 1) := by decide +kernel
theorem dJ7_fill_53178_11 : decode cJ7_fill_53178 11 = .ok (.iload_n 2, 1) := by decide +kernel
theorem dJ7_fill_53178_12 : decode cJ7_fill_53178 12 = .ok (.iload_n 1, 1) := by decide +kernel
theorem dJ7_fill_53178_13 : decode cJ7_fill_53178 13 = .ok (.iastore, 1) := by decide +kernel
theorem dJ7_fill_53178_14 : decode cJ7_fill_53178 14 = .ok (.iinc 2 1, 3) := by decide +kernel
theorem dJ7_fill_53178_17 : decode cJ7_fill_53178 17 = .ok (.goto (-12), 3) := by decide +kernel
theorem dJ7_fill_53178_20 : decode cJ7_fill_53178 20 = .ok (.return_, 1) := by decide +kernel
def j_J7_fill_53178 (F : Nat) (a : Nat) (a2 : Int32) (st : sw_St) : Option (Unit × sw_St) :=
nm (nI (sw_ln a)) (fun (x1 : Int32) =>
lz2 (fun f4 (x2 : Int32) (s3 : sw_St) =>
 (if x1 ≤ x2 then (
  some ((), s3))
 else (
  bnd x2 (sw_ln a) (
  nm (sw_setC s3 a (x2 : Int32).toNatClampNeg a2) (fun (s8 : sw_St) =>
  nm (x2 + 1) (fun (x9 : Int32) =>
  f4 x9 s8)))))) F 0 st)
set_option maxHeartbeats 4000000 in
set_option maxRecDepth 100000 in
theorem c_J7_fill_53178 (F : Nat) {a : Nat} (ha : sw_kd a = 8) (a2 : Int32) (st : sw_St) {st1 : sw_St} (h : j_J7_fill_53178 F a a2 st = some ((), st1)) : sw_CV yJ7_fill_53178 (.code yJ7_fill_53178 cJ7_fill_53178 4 none) 1 (fun g => [.ref (g.1 a), .int a2]) st  st1 := by
  refine sw_entV RJ7 (fun g => [(0, .ref (g.1 a)), (1, .int a2)]) (by decide) rfl (fun _ => Nat.le_of_ble_eq_true rfl) (fun _ => rfl) ?_
  intro p l e s m args below meth c g X hr hlk
  unfold j_J7_fill_53178 at h
  refine sw_iconst X (v := 0) (by decide) dJ7_fill_53178_0 ?_
  refine sw_istore_n X [(2, .int 0), (0, .ref (g.1 a)), (1, .int a2)] rfl (by decide) rfl dJ7_fill_53178_1 ?_
  refine sw_aload_n X 1 rfl rfl dJ7_fill_53178_2 ?_
  refine sw_alenI X (show sw_kd a = 8 from ha) dJ7_fill_53178_3 ?_
  refine sw_topi (fun x1 ex1 => ?_)
  have h := nm_E h ex1
  refine sw_istore_n X [(3, .int x1), (2, .int 0), (0, .ref (g.1 a)), (1, .int a2)] rfl (by decide) rfl dJ7_fill_53178_4 ?_
  refine sw_sub [2, 3, 1, 0] rfl ?_
  refine lz2_E (fun (x2 : Int32) (s3 : sw_St) => sw_V p l e 1 s m args below meth c g (sw_A g s.heap.size) (sw_QV below g args s  st1) 4 5 [(0, .ref (g.1 a)), (1, .int a2), (2, .int x2), (3, .int x1)] [] s3) h (fun f4 ih5 x2 s3 h => ?_)
  refine sw_iload_n X 2 rfl rfl dJ7_fill_53178_5 ?_
  refine sw_iload_n X 3 rfl rfl dJ7_fill_53178_6 ?_
  refine sw_icmp_ge X 20 (by decide) dJ7_fill_53178_7 (fun q6 => ?_) (fun q6 => ?_)
  · have h := ite_T h q6
    exact sw_vret X hr hlk dJ7_fill_53178_20 h
  · have h := ite_F h q6
    refine sw_aload_n X 0 rfl rfl dJ7_fill_53178_10 ?_
    refine sw_iload_n X 2 rfl rfl dJ7_fill_53178_11 ?_
    refine sw_iload_n X 1 rfl rfl dJ7_fill_53178_12 ?_
    obtain ⟨q7, h⟩ := bnd_E h
    refine sw_iast X (show sw_kd a = 8 from ha) (n := (sw_ln a)) rfl q7 dJ7_fill_53178_13 (fun s8 es8 => ?_)
    have h := nm_E h es8
    obtain ⟨x9, ex9⟩ : ∃ y : Int32, y = x2 + 1 := ⟨_, rfl⟩
    have h := nm_E h ex9
    refine sw_iinc X 2 x9 [(2, .int x9), (0, .ref (g.1 a)), (1, .int a2), (3, .int x1)] rfl (by rw [ex9]; rfl) (by decide) rfl dJ7_fill_53178_14 ?_
    refine sw_goto X 5 (by decide) dJ7_fill_53178_17 ?_
    refine sw_sub [1, 2, 0, 3] rfl ?_
    exact ih5 _ _ h
theorem dJ6_bitCount_0f7a4_0 : decode cJ6_bitCount_0f7a4 0 = .ok (.iload_n 0, 1) := by decide +kernel
theorem dJ6_bitCount_0f7a4_1 : decode cJ6_bitCount_0f7a4 1 = .ok (.iload_n 0, 1) := by decide +kernel
theorem dJ6_bitCount_0f7a4_2 : decode cJ6_bitCount_0f7a4 2 = .ok (.iconst 1, 1) := by decide +kernel
theorem dJ6_bitCount_0f7a4_3 : decode cJ6_bitCount_0f7a4 3 = .ok (.iushr, 1) := by decide +kernel
theorem dJ6_bitCount_0f7a4_4 : decode cJ6_bitCount_0f7a4 4 = .ok (.ldc_w 265, 3) := by decide +kernel
theorem dJ6_bitCount_0f7a4_7 : decode cJ6_bitCount_0f7a4 7 = .ok (.iand, 1) := by decide +kernel
theorem dJ6_bitCount_0f7a4_8 : decode cJ6_bitCount_0f7a4 8 = .ok (.isub, 1) := by decide +kernel
theorem dJ6_bitCount_0f7a4_9 : decode cJ6_bitCount_0f7a4 9 = .ok (.istore_n 0, 1) := by decide +kernel
theorem dJ6_bitCount_0f7a4_10 : decode cJ6_bitCount_0f7a4 10 = .ok (.iload_n 0, 1) := by decide +kernel
theorem dJ6_bitCount_0f7a4_11 : decode cJ6_bitCount_0f7a4 11 = .ok (.ldc_w 266, 3) := by decide +kernel
theorem dJ6_bitCount_0f7a4_14 : decode cJ6_bitCount_0f7a4 14 = .ok (.iand, 1) := by decide +kernel
theorem dJ6_bitCount_0f7a4_15 : decode cJ6_bitCount_0f7a4 15 = .ok (.iload_n 0, 1) := by decide +kernel
theorem dJ6_bitCount_0f7a4_16 : decode cJ6_bitCount_0f7a4 16 = .ok (.iconst 2, 1) := by decide +kernel
theorem dJ6_bitCount_0f7a4_17 : decode cJ6_bitCount_0f7a4 17 = .ok (.iushr, 1) := by decide +kernel
theorem dJ6_bitCount_0f7a4_18 : decode cJ6_bitCount_0f7a4 18 = .ok (.ldc_w 266, 3) := by decide +kernel
theorem dJ6_bitCount_0f7a4_21 : decode cJ6_bitCount_0f7a4 21 = .ok (.iand, 1) := by decide +kernel
theorem dJ6_bitCount_0f7a4_22 : decode cJ6_bitCount_0f7a4 22 = .ok (.iadd, 1) := by decide +kernel
theorem dJ6_bitCount_0f7a4_23 : decode cJ6_bitCount_0f7a4 23 = .ok (.istore_n 0, 1) := by decide +kernel
theorem dJ6_bitCount_0f7a4_24 : decode cJ6_bitCount_0f7a4 24 = .ok (.iload_n 0, 1) := by decide +kernel
theorem dJ6_bitCount_0f7a4_25 : decode cJ6_bitCount_0f7a4 25 = .ok (.iload_n 0, 1) := by decide +kernel
theorem dJ6_bitCount_0f7a4_26 : decode cJ6_bitCount_0f7a4 26 = .ok (.iconst 4, 1) := by decide +kernel
theorem dJ6_bitCount_0f7a4_27 : decode cJ6_bitCount_0f7a4 27 = .ok (.iushr, 1) := by decide +kernel
theorem dJ6_bitCount_0f7a4_28 : decode cJ6_bitCount_0f7a4 28 = .ok (.iadd, 1) := by decide +kernel
theorem dJ6_bitCount_0f7a4_29 : decode cJ6_bitCount_0f7a4 29 = .ok (.ldc_w 267, 3) := by decide +kernel
theorem dJ6_bitCount_0f7a4_32 : decode cJ6_bitCount_0f7a4 32 = .ok (.iand, 1) := by decide +kernel
theorem dJ6_bitCount_0f7a4_33 : decode cJ6_bitCount_0f7a4 33 = .ok (.istore_n 0, 1) := by decide +kernel
theorem dJ6_bitCount_0f7a4_34 : decode cJ6_bitCount_0f7a4 34 = .ok (.iload_n 0, 1) := by decide +kernel
theorem dJ6_bitCount_0f7a4_35 : decode cJ6_bitCount_0f7a4 35 = .ok (.iload_n 0, 1) := by decide +kernel
theorem dJ6_bitCount_0f7a4_36 : decode cJ6_bitCount_0f7a4 36 = .ok (.bipush 8, 2) := by decide +kernel
theorem dJ6_bitCount_0f7a4_38 : decode cJ6_bitCount_0f7a4 38 = .ok (.iushr, 1) := by decide +kernel
theorem dJ6_bitCount_0f7a4_39 : decode cJ6_bitCount_0f7a4 39 = .ok (.iadd, 1) := by decide +kernel
theorem dJ6_bitCount_0f7a4_40 : decode cJ6_bitCount_0f7a4 40 = .ok (.istore_n 0, 1) := by decide +kernel
theorem dJ6_bitCount_0f7a4_41 : decode cJ6_bitCount_0f7a4 41 = .ok (.iload_n 0, 1) := by decide +kernel
theorem dJ6_bitCount_0f7a4_42 : decode cJ6_bitCount_0f7a4 42 = .ok (.iload_n 0, 1) := by decide +kernel
theorem dJ6_bitCount_0f7a4_43 : decode cJ6_bitCount_0f7a4 43 = .ok (.bipush 16, 2) := by decide +kernel
theorem dJ6_bitCount_0f7a4_45 : decode cJ6_bitCount_0f7a4 45 = .ok (.iushr, 1) := by decide +kernel
theorem dJ6_bitCount_0f7a4_46 : decode cJ6_bitCount_0f7a4 46 = .ok (.iadd, 1) := by decide +kernel
theorem dJ6_bitCount_0f7a4_47 : decode cJ6_bitCount_0f7a4 47 = .ok (.istore_n 0, 1) := by decide +kernel
theorem dJ6_bitCount_0f7a4_48 : decode cJ6_bitCount_0f7a4 48 = .ok (.iload_n 0, 1) := by decide +kernel
theorem dJ6_bitCount_0f7a4_49 : decode cJ6_bitCount_0f7a4 49 = .ok (.bipush 63, 2) := by decide +kernel
theorem dJ6_bitCount_0f7a4_51 : decode cJ6_bitCount_0f7a4 51 = .ok (.iand, 1) := by decide +kernel
theorem dJ6_bitCount_0f7a4_52 : decode cJ6_bitCount_0f7a4 52 = .ok (.ireturn, 1) := by decide +kernel
def j_J6_bitCount_0f7a4 (F : Nat) (a1 : Int32) (st : sw_St) : Option Int32 :=
nm (a1 - ((((a1 : Int32).toUInt32 >>> ((1 : Int32).toUInt32 &&& Int32.toUInt32 31)).toInt32) &&& 1431655765)) (fun (x1 : Int32) =>
nm ((x1 &&& 858993459) + ((((x1 : Int32).toUInt32 >>> ((2 : Int32).toUInt32 &&& Int32.toUInt32 31)).toInt32) &&& 858993459)) (fun (x2 : Int32) =>
nm ((x2 + (((x2 : Int32).toUInt32 >>> ((4 : Int32).toUInt32 &&& Int32.toUInt32 31)).toInt32)) &&& 252645135) (fun (x3 : Int32) =>
nm (x3 + (((x3 : Int32).toUInt32 >>> ((8 : Int32).toUInt32 &&& Int32.toUInt32 31)).toInt32)) (fun (x4 : Int32) =>
nm (x4 + (((x4 : Int32).toUInt32 >>> ((16 : Int32).toUInt32 &&& Int32.toUInt32 31)).toInt32)) (fun (x5 : Int32) =>
some (x5 &&& 63 : Int32))))))
set_option maxHeartbeats 4000000 in
set_option maxRecDepth 100000 in
theorem c_J6_bitCount_0f7a4 (F : Nat) (a1 : Int32) (st : sw_St) {r : Int32} (h : j_J6_bitCount_0f7a4 F a1 st = some r) : sw_CI yJ6_bitCount_0f7a4 (.code yJ6_bitCount_0f7a4 cJ6_bitCount_0f7a4 1 (some .int)) 1 (fun g => [.int a1]) st r st := by
  refine sw_entI RJ6 (fun g => [(0, .int a1)]) (by decide) rfl (fun _ => Nat.le_of_ble_eq_true rfl) (fun _ => rfl) ?_
  intro p l e s m args below meth c g X hr hlk
  unfold j_J6_bitCount_0f7a4 at h
  refine sw_iload_n X 0 rfl rfl dJ6_bitCount_0f7a4_0 ?_
  refine sw_iload_n X 0 rfl rfl dJ6_bitCount_0f7a4_1 ?_
  refine sw_iconst X (v := 1) (by decide) dJ6_bitCount_0f7a4_2 ?_
  refine sw_iushr X dJ6_bitCount_0f7a4_3 ?_
  refine sw_ldcw X (v := 1431655765) wc_J6_265 dJ6_bitCount_0f7a4_4 ?_
  refine sw_iand X dJ6_bitCount_0f7a4_7 ?_
  refine sw_isub X dJ6_bitCount_0f7a4_8 ?_
  refine sw_topi (fun x1 ex1 => ?_)
  have h := nm_E h ex1
  refine sw_istore_n X [(0, .int x1)] rfl (by decide) rfl dJ6_bitCount_0f7a4_9 ?_
  refine sw_iload_n X 0 rfl rfl dJ6_bitCount_0f7a4_10 ?_
  refine sw_ldcw X (v := 858993459) wc_J6_266 dJ6_bitCount_0f7a4_11 ?_
  refine sw_iand X dJ6_bitCount_0f7a4_14 ?_
  refine sw_iload_n X 0 rfl rfl dJ6_bitCount_0f7a4_15 ?_
  refine sw_iconst X (v := 2) (by decide) dJ6_bitCount_0f7a4_16 ?_
  refine sw_iushr X dJ6_bitCount_0f7a4_17 ?_
  refine sw_ldcw X (v := 858993459) wc_J6_266 dJ6_bitCount_0f7a4_18 ?_
  refine sw_iand X dJ6_bitCount_0f7a4_21 ?_
  refine sw_iadd X dJ6_bitCount_0f7a4_22 ?_
  refine sw_topi (fun x2 ex2 => ?_)
  have h := nm_E h ex2
  refine sw_istore_n X [(0, .int x2)] rfl (by decide) rfl dJ6_bitCount_0f7a4_23 ?_
  refine sw_iload_n X 0 rfl rfl dJ6_bitCount_0f7a4_24 ?_
  refine sw_iload_n X 0 rfl rfl dJ6_bitCount_0f7a4_25 ?_
  refine sw_iconst X (v := 4) (by decide) dJ6_bitCount_0f7a4_26 ?_
  refine sw_iushr X dJ6_bitCount_0f7a4_27 ?_
  refine sw_iadd X dJ6_bitCount_0f7a4_28 ?_
  refine sw_ldcw X (v := 252645135) wc_J6_267 dJ6_bitCount_0f7a4_29 ?_
  refine sw_iand X dJ6_bitCount_0f7a4_32 ?_
  refine sw_topi (fun x3 ex3 => ?_)
  have h := nm_E h ex3
  refine sw_istore_n X [(0, .int x3)] rfl (by decide) rfl dJ6_bitCount_0f7a4_33 ?_
  refine sw_iload_n X 0 rfl rfl dJ6_bitCount_0f7a4_34 ?_
  refine sw_iload_n X 0 rfl rfl dJ6_bitCount_0f7a4_35 ?_
  refine sw_bipush X (v := 8) (by decide) dJ6_bitCount_0f7a4_36 ?_
  refine sw_iushr X dJ6_bitCount_0f7a4_38 ?_
  refine sw_iadd X dJ6_bitCount_0f7a4_39 ?_
  refine sw_topi (fun x4 ex4 => ?_)
  have h := nm_E h ex4
  refine sw_istore_n X [(0, .int x4)] rfl (by decide) rfl dJ6_bitCount_0f7a4_40 ?_
  refine sw_iload_n X 0 rfl rfl dJ6_bitCount_0f7a4_41 ?_
  refine sw_iload_n X 0 rfl rfl dJ6_bitCount_0f7a4_42 ?_
  refine sw_bipush X (v := 16) (by decide) dJ6_bitCount_0f7a4_43 ?_
  refine sw_iushr X dJ6_bitCount_0f7a4_45 ?_
  refine sw_iadd X dJ6_bitCount_0f7a4_46 ?_
  refine sw_topi (fun x5 ex5 => ?_)
  have h := nm_E h ex5
  refine sw_istore_n X [(0, .int x5)] rfl (by decide) rfl dJ6_bitCount_0f7a4_47 ?_
  refine sw_iload_n X 0 rfl rfl dJ6_bitCount_0f7a4_48 ?_
  refine sw_bipush X (v := 63) (by decide) dJ6_bitCount_0f7a4_49 ?_
  refine sw_iand X dJ6_bitCount_0f7a4_51 ?_
  exact sw_iret X hr hlk dJ6_bitCount_0f7a4_52 (by cases h; rfl)
theorem dX0_tally_0 : decode cX0_tally 0 = .ok (.aload_n 0, 1) := by decide +kernel
theorem dX0_tally_1 : decode cX0_tally 1 = .ok (.getfield 9, 3) := by decide +kernel
theorem dX0_tally_4 : decode cX0_tally 4 = .ok (.ifCond .ne 8, 3) := by decide +kernel
theorem dX0_tally_7 : decode cX0_tally 7 = .ok (.aload_n 0, 1) := by decide +kernel
theorem dX0_tally_8 : decode cX0_tally 8 = .ok (.iload_n 1, 1) := by decide +kernel
theorem dX0_tally_9 : decode cX0_tally 9 = .ok (.putfield 15, 3) := by decide +kernel
theorem dX0_tally_12 : decode cX0_tally 12 = .ok (.aload_n 0, 1) := by decide +kernel
theorem dX0_tally_13 : decode cX0_tally 13 = .ok (.dup, 1) := by decide +kernel
theorem dX0_tally_14 : decode cX0_tally 14 = .ok (.getfield 9, 3) := by decide +kernel
theorem dX0_tally_17 : decode cX0_tally 17 = .ok (.iconst 1, 1) := by decide +kernel
theorem dX0_tally_18 : decode cX0_tally 18 = .ok (.iadd, 1) := by decide +kernel
theorem dX0_tally_19 : decode cX0_tally 19 = .ok (.putfield 9, 3) := by decide +kernel
theorem dX0_tally_22 : decode cX0_tally 22 = .ok (.aload_n 0, 1) := by decide +kernel
theorem dX0_tally_23 : decode cX0_tally 23 = .ok (.dup, 1) := by decide +kernel
theorem dX0_tally_24 : decode cX0_tally 24 = .ok (.getfield 18, 3) := by decide +kernel
theorem dX0_tally_27 : decode cX0_tally 27 = .ok (.iload_n 1, 1) := by decide +kernel
theorem dX0_tally_28 : decode cX0_tally 28 = .ok (.iand, 1) := by decide +kernel
theorem dX0_tally_29 : decode cX0_tally 29 = .ok (.putfield 18, 3) := by decide +kernel
theorem dX0_tally_32 : decode cX0_tally 32 = .ok (.aload_n 0, 1) := by decide +kernel
theorem dX0_tally_33 : decode cX0_tally 33 = .ok (.dup, 1) := by decide +kernel
theorem dX0_tally_34 : decode cX0_tally 34 = .ok (.getfield 21, 3) := by decide +kernel
theorem dX0_tally_37 : decode cX0_tally 37 = .ok (.iload_n 1, 1) := by decide +kernel
theorem dX0_tally_38 : decode cX0_tally 38 = .ok (.ior, 1) := by decide +kernel
theorem dX0_tally_39 : decode cX0_tally 39 = .ok (.putfield 21, 3) := by decide +kernel
theorem dX0_tally_42 : decode cX0_tally 42 = .ok (.aload_n 0, 1) := by decide +kernel
theorem dX0_tally_43 : decode cX0_tally 43 = .ok (.aload_n 0, 1) := by decide +kernel
theorem dX0_tally_44 : decode cX0_tally 44 = .ok (.getfield 24, 3) := by decide +kernel
theorem dX0_tally_47 : decode cX0_tally 47 = .ok (.iload_n 1, 1) := by decide +kernel
theorem dX0_tally_48 : decode cX0_tally 48 = .ok (.invokestatic 62, 3) := by decide +kernel
theorem dX0_tally_51 : decode cX0_tally 51 = .ok (.invokestatic 67, 3) := by decide +kernel
theorem dX0_tally_54 : decode cX0_tally 54 = .ok (.putfield 24, 3) := by decide +kernel
theorem dX0_tally_57 : decode cX0_tally 57 = .ok (.aload_n 0, 1) := by decide +kernel
theorem dX0_tally_58 : decode cX0_tally 58 = .ok (.aload_n 0, 1) := by decide +kernel
theorem dX0_tally_59 : decode cX0_tally 59 = .ok (.getfield 27, 3) := by decide +kernel
theorem dX0_tally_62 : decode cX0_tally 62 = .ok (.iload_n 1, 1) := by decide +kernel
theorem dX0_tally_63 : decode cX0_tally 63 = .ok (.invokestatic 62, 3) := by decide +kernel
theorem dX0_tally_66 : decode cX0_tally 66 = .ok (.invokestatic 73, 3) := by decide +kernel
theorem dX0_tally_69 : decode cX0_tally 69 = .ok (.putfield 27, 3) := by decide +kernel
theorem dX0_tally_72 : decode cX0_tally 72 = .ok (.iconst 0, 1) := by decide +kernel
theorem dX0_tally_73 : decode cX0_tally 73 = .ok (.istore_n 2, 1) := by decide +kernel
theorem dX0_tally_74 : decode cX0_tally 74 = .ok (.iload_n 2, 1) := by decide +kernel
theorem dX0_tally_75 : decode cX0_tally 75 = .ok (.bipush 6, 2) := by decide +kernel
theorem dX0_tally_77 : decode cX0_tally 77 = .ok (.if_icmp .ge 23, 3) := by decide +kernel
theorem dX0_tally_80 : decode cX0_tally 80 = .ok (.aload_n 0, 1) := by decide +kernel
theorem dX0_tally_81 : decode cX0_tally 81 = .ok (.getfield 30, 3) := by decide +kernel
theorem dX0_tally_84 : decode cX0_tally 84 = .ok (.iload_n 2, 1) := by decide +kernel
theorem dX0_tally_85 : decode cX0_tally 85 = .ok (.dup2, 1) := by decide +kernel
theorem dX0_tally_86 : decode cX0_tally 86 = .ok (.iaload, 1) := by decide +kernel
theorem dX0_tally_87 : decode cX0_tally 87 = .ok (.iload_n 1, 1) := by decide +kernel
theorem dX0_tally_88 : decode cX0_tally 88 = .ok (.iload_n 2, 1) := by decide +kernel
theorem dX0_tally_89 : decode cX0_tally 89 = .ok (.ishr, 1) := by decide +kernel
theorem dX0_tally_90 : decode cX0_tally 90 = .ok (.iconst 1, 1) := by decide +kernel
theorem dX0_tally_91 : decode cX0_tally 91 = .ok (.iand, 1) := by decide +kernel
theorem dX0_tally_92 : decode cX0_tally 92 = .ok (.iadd, 1) := by decide +kernel
theorem dX0_tally_93 : decode cX0_tally 93 = .ok (.iastore, 1) := by decide +kernel
theorem dX0_tally_94 : decode cX0_tally 94 = .ok (.iinc 2 1, 3) := by decide +kernel
theorem dX0_tally_97 : decode cX0_tally 97 = .ok (.goto (-23), 3) := by decide +kernel
theorem dX0_tally_100 : decode cX0_tally 100 = .ok (.return_, 1) := by decide +kernel
def j_X0_tally (F : Nat) (a1 : Int32) (st : sw_St) : Option (Unit × sw_St) :=
jn (fun (s1 : sw_St) => 
  nm (sw_setC s1 60 0 ((s1.1 60 0) + 1)) (fun (s4 : sw_St) =>
  nm (sw_setC s4 60 2 ((s4.1 60 2) &&& a1)) (fun (s5 : sw_St) =>
  nm (sw_setC s5 60 3 ((s5.1 60 3) ||| a1)) (fun (s6 : sw_St) =>
  bo (j_J6_bitCount_0f7a4 F a1 s6) (fun (r8 : Int32) =>
  nm (sw_setC s6 60 4 (if r8 < (s6.1 60 4) then r8 else (s6.1 60 4))) (fun (s9 : sw_St) =>
  bo (j_J6_bitCount_0f7a4 F a1 s9) (fun (r11 : Int32) =>
  nm (sw_setC s9 60 5 (if (s9.1 60 5) < r11 then r11 else (s9.1 60 5))) (fun (s12 : sw_St) =>
  lz2 (fun f15 (x13 : Int32) (s14 : sw_St) =>
   (if 6 ≤ x13 then (
    some ((), s14))
   else (
    bnd x13 6 (
    bnd x13 6 (
    nm (sw_setC s14 61 (x13 : Int32).toNatClampNeg ((s14.1 61 (x13 : Int32).toNatClampNeg) + ((a1 >>> (x13 &&& 31)) &&& 1))) (fun (s20 : sw_St) =>
    nm (x13 + 1) (fun (x21 : Int32) =>
    f15 x21 s20))))))) F 0 s12)))))))) (fun k2 =>
 (if (st.1 60 0) = 0 then (
  nm (sw_setC st 60 1 a1) (fun (s23 : sw_St) =>
  k2 s23))
 else (
  k2 st)))
set_option maxHeartbeats 4000000 in
set_option maxRecDepth 100000 in
theorem c_X0_tally (F : Nat) (a1 : Int32) (st : sw_St) {st1 : sw_St} (h : j_X0_tally F a1 st = some ((), st1)) : sw_CV yX0_tally (.code yX0_tally cX0_tally 3 none) 2 (fun g => [.ref (g.1 60), .int a1]) st  st1 := by
  refine sw_entV RX0 (fun g => [(0, .ref (g.1 60)), (1, .int a1)]) (by decide) rfl (fun _ => Nat.le_of_ble_eq_true rfl) (fun _ => rfl) ?_
  intro p l e s m args below meth c g X hr hlk
  unfold j_X0_tally at h
  refine sw_aload_n X 0 rfl rfl dX0_tally_0 ?_
  refine sw_getI X sw_cl0 (show sw_kd 60 = 0 from rfl) (k := 0) rfl (by decide) wf_X0_9 dX0_tally_1 ?_
  refine jn1_E (fun (s1 : sw_St) => sw_V p l e 2 s m args below meth c g (sw_A g s.heap.size) (sw_QV below g args s  st1) 3 12 [(0, .ref (g.1 60)), (1, .int a1)] [] s1) h (fun s1 h => ?_) (fun k2 J3 h => ?_)
  · refine sw_aload_n X 0 rfl rfl dX0_tally_12 ?_
    refine sw_dup X rfl dX0_tally_13 ?_
    refine sw_getI X sw_cl0 (show sw_kd 60 = 0 from rfl) (k := 0) rfl (by decide) wf_X0_9 dX0_tally_14 ?_
    refine sw_iconst X (v := 1) (by decide) dX0_tally_17 ?_
    refine sw_iadd X dX0_tally_18 ?_
    refine sw_putI X sw_cl0 (show sw_kd 60 = 0 from rfl) (k := 0) rfl (by decide) rfl rfl wf_X0_9 dX0_tally_19 (fun s4 es4 => ?_)
    have h := nm_E h es4
    refine sw_aload_n X 0 rfl rfl dX0_tally_22 ?_
    refine sw_dup X rfl dX0_tally_23 ?_
    refine sw_getI X sw_cl0 (show sw_kd 60 = 0 from rfl) (k := 2) rfl (by decide) wf_X0_18 dX0_tally_24 ?_
    refine sw_iload_n X 1 rfl rfl dX0_tally_27 ?_
    refine sw_iand X dX0_tally_28 ?_
    refine sw_putI X sw_cl0 (show sw_kd 60 = 0 from rfl) (k := 2) rfl (by decide) rfl rfl wf_X0_18 dX0_tally_29 (fun s5 es5 => ?_)
    have h := nm_E h es5
    refine sw_aload_n X 0 rfl rfl dX0_tally_32 ?_
    refine sw_dup X rfl dX0_tally_33 ?_
    refine sw_getI X sw_cl0 (show sw_kd 60 = 0 from rfl) (k := 3) rfl (by decide) wf_X0_21 dX0_tally_34 ?_
    refine sw_iload_n X 1 rfl rfl dX0_tally_37 ?_
    refine sw_ior X dX0_tally_38 ?_
    refine sw_putI X sw_cl0 (show sw_kd 60 = 0 from rfl) (k := 3) rfl (by decide) rfl rfl wf_X0_21 dX0_tally_39 (fun s6 es6 => ?_)
    have h := nm_E h es6
    refine sw_aload_n X 0 rfl rfl dX0_tally_42 ?_
    refine sw_aload_n X 0 rfl rfl dX0_tally_43 ?_
    refine sw_getI X sw_cl0 (show sw_kd 60 = 0 from rfl) (k := 4) rfl (by decide) wf_X0_24 dX0_tally_44 ?_
    refine sw_iload_n X 1 rfl rfl dX0_tally_47 ?_
    obtain ⟨r8, c7, h⟩ := bo_E h
    refine sw_callSI X (As := (fun g => [.int a1])) ws_J6_bitCount_0f7a4 (by omega) (c_J6_bitCount_0f7a4 F a1 s6 c7) rfl rfl (Nat.le_of_ble_eq_true rfl) wm_X0_62 dX0_tally_48 ?_
    refine sw_mmin X wm_X0_67 ws_min.1 ws_min.2.1 ws_min.2.2 (by omega) (Nat.le_of_ble_eq_true rfl) dX0_tally_51 ?_
    refine sw_putI X sw_cl0 (show sw_kd 60 = 0 from rfl) (k := 4) rfl (by decide) rfl rfl wf_X0_24 dX0_tally_54 (fun s9 es9 => ?_)
    have h := nm_E h es9
    refine sw_aload_n X 0 rfl rfl dX0_tally_57 ?_
    refine sw_aload_n X 0 rfl rfl dX0_tally_58 ?_
    refine sw_getI X sw_cl0 (show sw_kd 60 = 0 from rfl) (k := 5) rfl (by decide) wf_X0_27 dX0_tally_59 ?_
    refine sw_iload_n X 1 rfl rfl dX0_tally_62 ?_
    obtain ⟨r11, c10, h⟩ := bo_E h
    refine sw_callSI X (As := (fun g => [.int a1])) ws_J6_bitCount_0f7a4 (by omega) (c_J6_bitCount_0f7a4 F a1 s9 c10) rfl rfl (Nat.le_of_ble_eq_true rfl) wm_X0_62 dX0_tally_63 ?_
    refine sw_mmax X wm_X0_73 ws_max.1 ws_max.2.1 ws_max.2.2 (by omega) (Nat.le_of_ble_eq_true rfl) dX0_tally_66 ?_
    refine sw_putI X sw_cl0 (show sw_kd 60 = 0 from rfl) (k := 5) rfl (by decide) rfl rfl wf_X0_27 dX0_tally_69 (fun s12 es12 => ?_)
    have h := nm_E h es12
    refine sw_iconst X (v := 0) (by decide) dX0_tally_72 ?_
    refine sw_istore_n X [(2, .int 0), (0, .ref (g.1 60)), (1, .int a1)] rfl (by decide) rfl dX0_tally_73 ?_
    refine sw_sub [1, 2, 0] rfl ?_
    refine lz2_E (fun (x13 : Int32) (s14 : sw_St) => sw_V p l e 2 s m args below meth c g (sw_A g s.heap.size) (sw_QV below g args s  st1) 3 74 [(0, .ref (g.1 60)), (1, .int a1), (2, .int x13)] [] s14) h (fun f15 ih16 x13 s14 h => ?_)
    refine sw_iload_n X 2 rfl rfl dX0_tally_74 ?_
    refine sw_bipush X (v := 6) (by decide) dX0_tally_75 ?_
    refine sw_icmp_ge X 100 (by decide) dX0_tally_77 (fun q17 => ?_) (fun q17 => ?_)
    · have h := ite_T h q17
      exact sw_vret X hr hlk dX0_tally_100 h
    · have h := ite_F h q17
      refine sw_aload_n X 0 rfl rfl dX0_tally_80 ?_
      refine sw_getR X sw_cl0 (show sw_kd 60 = 0 from rfl) (k := 6) rfl (by decide) (o1 := 61) rfl wf_X0_30 dX0_tally_81 ?_
      refine sw_iload_n X 2 rfl rfl dX0_tally_84 ?_
      refine sw_dup2 X rfl rfl dX0_tally_85 ?_
      obtain ⟨q18, h⟩ := bnd_E h
      refine sw_iald X (show sw_kd 61 = 8 from rfl) (n := 6) rfl q18 dX0_tally_86 ?_
      refine sw_iload_n X 1 rfl rfl dX0_tally_87 ?_
      refine sw_iload_n X 2 rfl rfl dX0_tally_88 ?_
      refine sw_ishr X dX0_tally_89 ?_
      refine sw_iconst X (v := 1) (by decide) dX0_tally_90 ?_
      refine sw_iand X dX0_tally_91 ?_
      refine sw_iadd X dX0_tally_92 ?_
      obtain ⟨q19, h⟩ := bnd_E h
      refine sw_iast X (show sw_kd 61 = 8 from rfl) (n := 6) rfl q19 dX0_tally_93 (fun s20 es20 => ?_)
      have h := nm_E h es20
      obtain ⟨x21, ex21⟩ : ∃ y : Int32, y = x13 + 1 := ⟨_, rfl⟩
      have h := nm_E h ex21
      refine sw_iinc X 2 x21 [(2, .int x21), (0, .ref (g.1 60)), (1, .int a1)] rfl (by rw [ex21]; rfl) (by decide) rfl dX0_tally_94 ?_
      refine sw_goto X 74 (by decide) dX0_tally_97 ?_
      refine sw_sub [1, 2, 0] rfl ?_
      exact ih16 _ _ h
  · refine sw_if_ne X 12 (by decide) dX0_tally_4 (fun q22 => ?_) (fun q22 => ?_)
    · have h := ite_F h q22
      exact J3 _ h
    · have h := ite_T h q22
      refine sw_aload_n X 0 rfl rfl dX0_tally_7 ?_
      refine sw_iload_n X 1 rfl rfl dX0_tally_8 ?_
      refine sw_putI X sw_cl0 (show sw_kd 60 = 0 from rfl) (k := 1) rfl (by decide) rfl rfl wf_X0_15 dX0_tally_9 (fun s23 es23 => ?_)
      have h := nm_E h es23
      exact J3 _ h
theorem dX4_sets_0 : decode cX4_sets 0 = .ok (.iconst 1, 1) := by decide +kernel
theorem dX4_sets_1 : decode cX4_sets 1 = .ok (.aload_n 0, 1) := by decide +kernel
theorem dX4_sets_2 : decode cX4_sets 2 = .ok (.getfield 9, 3) := by decide +kernel
theorem dX4_sets_5 : decode cX4_sets 5 = .ok (.ishl, 1) := by decide +kernel
theorem dX4_sets_6 : decode cX4_sets 6 = .ok (.ireturn, 1) := by decide +kernel
def j_X4_sets (F : Nat) (t : Nat) (st : sw_St) : Option Int32 :=
some (1 <<< ((st.1 t 0) &&& 31) : Int32)
set_option maxHeartbeats 4000000 in
set_option maxRecDepth 100000 in
theorem c_X4_sets (F : Nat) {t : Nat} (ht : sw_kd t = 4) (st : sw_St) {r : Int32} (h : j_X4_sets F t st = some r) : sw_CI yX4_sets (.code yX4_sets cX4_sets 1 (some .int)) 1 (fun g => [.ref (g.1 t)]) st r st := by
  refine sw_entI RX4 (fun g => [(0, .ref (g.1 t))]) (by decide) rfl (fun _ => Nat.le_of_ble_eq_true rfl) (fun _ => rfl) ?_
  intro p l e s m args below meth c g X hr hlk
  unfold j_X4_sets at h
  refine sw_iconst X (v := 1) (by decide) dX4_sets_0 ?_
  refine sw_aload_n X 0 rfl rfl dX4_sets_1 ?_
  refine sw_getI X sw_cl4 (show sw_kd t = 4 from ht) (k := 0) rfl (by decide) wf_X4_9 dX4_sets_2 ?_
  refine sw_ishl X dX4_sets_5 ?_
  exact sw_iret X hr hlk dX4_sets_6 (by cases h; rfl)
theorem dX4_notIn_0 : decode cX4_notIn 0 = .ok (.aload_n 0, 1) := by decide +kernel
theorem dX4_notIn_1 : decode cX4_notIn 1 = .ok (.invokevirtual 64, 3) := by decide +kernel
theorem dX4_notIn_4 : decode cX4_notIn 4 = .ok (.iconst 1, 1) := by decide +kernel
theorem dX4_notIn_5 : decode cX4_notIn 5 = .ok (.isub, 1) := by decide +kernel
theorem dX4_notIn_6 : decode cX4_notIn 6 = .ok (.aload_n 0, 1) := by decide +kernel
theorem dX4_notIn_7 : decode cX4_notIn 7 = .ok (.getfield 46, 3) := by decide +kernel
theorem dX4_notIn_10 : decode cX4_notIn 10 = .ok (.iconst (-1), 1) := by decide +kernel
theorem dX4_notIn_11 : decode cX4_notIn 11 = .ok (.ixor, 1) := by decide +kernel
theorem dX4_notIn_12 : decode cX4_notIn 12 = .ok (.iand, 1) := by decide +kernel
theorem dX4_notIn_13 : decode cX4_notIn 13 = .ok (.ireturn, 1) := by decide +kernel
def j_X4_notIn (F : Nat) (t : Nat) (st : sw_St) : Option Int32 :=
bo (j_X4_sets F t st) (fun (r2 : Int32) =>
some ((r2 - 1) &&& ((st.1 t 11) ^^^ (-1)) : Int32))
set_option maxHeartbeats 4000000 in
set_option maxRecDepth 100000 in
theorem c_X4_notIn (F : Nat) {t : Nat} (ht : sw_kd t = 4) (st : sw_St) {r : Int32} (h : j_X4_notIn F t st = some r) : sw_CI yX4_notIn (.code yX4_notIn cX4_notIn 1 (some .int)) 2 (fun g => [.ref (g.1 t)]) st r st := by
  refine sw_entI RX4 (fun g => [(0, .ref (g.1 t))]) (by decide) rfl (fun _ => Nat.le_of_ble_eq_true rfl) (fun _ => rfl) ?_
  intro p l e s m args below meth c g X hr hlk
  unfold j_X4_notIn at h
  refine sw_aload_n X 0 rfl rfl dX4_notIn_0 ?_
  obtain ⟨r2, c1, h⟩ := bo_E h
  refine sw_callVI X (o := t) (As := (fun g => [])) sw_cl4 (show sw_kd t = 4 from ht) ws_X4_sets (by omega) (c_X4_sets F (show sw_kd t = 4 from ht) st c1) rfl rfl (Nat.le_of_ble_eq_true rfl) wm_X4_64 dX4_notIn_1 ?_
  refine sw_iconst X (v := 1) (by decide) dX4_notIn_4 ?_
  refine sw_isub X dX4_notIn_5 ?_
  refine sw_aload_n X 0 rfl rfl dX4_notIn_6 ?_
  refine sw_getI X sw_cl4 (show sw_kd t = 4 from ht) (k := 11) rfl (by decide) wf_X4_46 dX4_notIn_7 ?_
  refine sw_iconst X (v := (-1)) (by decide) dX4_notIn_10 ?_
  refine sw_ixor X dX4_notIn_11 ?_
  refine sw_iand X dX4_notIn_12 ?_
  exact sw_iret X hr hlk dX4_notIn_13 (by cases h; rfl)
theorem dX4_woundNext_0 : decode cX4_woundNext 0 = .ok (.iconst 0, 1) := by decide +kernel
theorem dX4_woundNext_1 : decode cX4_woundNext 1 = .ok (.iload_n 1, 1) := by decide +kernel
theorem dX4_woundNext_2 : decode cX4_woundNext 2 = .ok (.iconst 1, 1) := by decide +kernel
theorem dX4_woundNext_3 : decode cX4_woundNext 3 = .ok (.isub, 1) := by decide +kernel
theorem dX4_woundNext_4 : decode cX4_woundNext 4 = .ok (.aload_n 0, 1) := by decide +kernel
theorem dX4_woundNext_5 : decode cX4_woundNext 5 = .ok (.getfield 37, 3) := by decide +kernel
theorem dX4_woundNext_8 : decode cX4_woundNext 8 = .ok (.isub, 1) := by decide +kernel
theorem dX4_woundNext_9 : decode cX4_woundNext 9 = .ok (.invokestatic 108, 3) := by decide +kernel
theorem dX4_woundNext_12 : decode cX4_woundNext 12 = .ok (.ireturn, 1) := by decide +kernel
def j_X4_woundNext (F : Nat) (t : Nat) (a1 : Int32) (st : sw_St) : Option Int32 :=
some ((if 0 < ((a1 - 1) - (st.1 t 8)) then ((a1 - 1) - (st.1 t 8)) else 0) : Int32)
set_option maxHeartbeats 4000000 in
set_option maxRecDepth 100000 in
theorem c_X4_woundNext (F : Nat) {t : Nat} (ht : sw_kd t = 4) (a1 : Int32) (st : sw_St) {r : Int32} (h : j_X4_woundNext F t a1 st = some r) : sw_CI yX4_woundNext (.code yX4_woundNext cX4_woundNext 2 (some .int)) 1 (fun g => [.ref (g.1 t), .int a1]) st r st := by
  refine sw_entI RX4 (fun g => [(0, .ref (g.1 t)), (1, .int a1)]) (by decide) rfl (fun _ => Nat.le_of_ble_eq_true rfl) (fun _ => rfl) ?_
  intro p l e s m args below meth c g X hr hlk
  unfold j_X4_woundNext at h
  refine sw_iconst X (v := 0) (by decide) dX4_woundNext_0 ?_
  refine sw_iload_n X 1 rfl rfl dX4_woundNext_1 ?_
  refine sw_iconst X (v := 1) (by decide) dX4_woundNext_2 ?_
  refine sw_isub X dX4_woundNext_3 ?_
  refine sw_aload_n X 0 rfl rfl dX4_woundNext_4 ?_
  refine sw_getI X sw_cl4 (show sw_kd t = 4 from ht) (k := 8) rfl (by decide) wf_X4_37 dX4_woundNext_5 ?_
  refine sw_isub X dX4_woundNext_8 ?_
  refine sw_mmax X wm_X4_108 ws_max.1 ws_max.2.1 ws_max.2.2 (by omega) (Nat.le_of_ble_eq_true rfl) dX4_woundNext_9 ?_
  exact sw_iret X hr hlk dX4_woundNext_12 (by cases h; rfl)
theorem dX4_strikesNext_0 : decode cX4_strikesNext 0 = .ok (.iload_n 1, 1) := by decide +kernel
theorem dX4_strikesNext_1 : decode cX4_strikesNext 1 = .ok (.ifCond .le 16, 3) := by decide +kernel
theorem dX4_strikesNext_4 : decode cX4_strikesNext 4 = .ok (.aload_n 0, 1) := by decide +kernel
theorem dX4_strikesNext_5 : decode cX4_strikesNext 5 = .ok (.iload_n 1, 1) := by decide +kernel
theorem dX4_strikesNext_6 : decode cX4_strikesNext 6 = .ok (.invokevirtual 87, 3) := by decide +kernel
theorem dX4_strikesNext_9 : decode cX4_strikesNext 9 = .ok (.bipush 10, 2) := by decide +kernel
theorem dX4_strikesNext_11 : decode cX4_strikesNext 11 = .ok (.idiv, 1) := by decide +kernel
theorem dX4_strikesNext_12 : decode cX4_strikesNext 12 = .ok (.iconst 1, 1) := by decide +kernel
theorem dX4_strikesNext_13 : decode cX4_strikesNext 13 = .ok (.iadd, 1) := by decide +kernel
theorem dX4_strikesNext_14 : decode cX4_strikesNext 14 = .ok (.goto 4, 3) := by decide +kernel
theorem dX4_strikesNext_17 : decode cX4_strikesNext 17 = .ok (.iconst 0, 1) := by decide +kernel
theorem dX4_strikesNext_18 : decode cX4_strikesNext 18 = .ok (.ireturn, 1) := by decide +kernel
def j_X4_strikesNext (F : Nat) (t : Nat) (a1 : Int32) (st : sw_St) : Option Int32 :=
jn (fun (x1 : Int32) => 
  some (x1 : Int32)) (fun k2 =>
 (if a1 ≤ 0 then (
  k2 0)
 else (
  bo (j_X4_woundNext F t a1 st) (fun (r6 : Int32) =>
  k2 ((r6 / 10) + 1)))))
set_option maxHeartbeats 4000000 in
set_option maxRecDepth 100000 in
theorem c_X4_strikesNext (F : Nat) {t : Nat} (ht : sw_kd t = 4) (a1 : Int32) (st : sw_St) {r : Int32} (h : j_X4_strikesNext F t a1 st = some r) : sw_CI yX4_strikesNext (.code yX4_strikesNext cX4_strikesNext 2 (some .int)) 2 (fun g => [.ref (g.1 t), .int a1]) st r st := by
  refine sw_entI RX4 (fun g => [(0, .ref (g.1 t)), (1, .int a1)]) (by decide) rfl (fun _ => Nat.le_of_ble_eq_true rfl) (fun _ => rfl) ?_
  intro p l e s m args below meth c g X hr hlk
  unfold j_X4_strikesNext at h
  refine sw_iload_n X 1 rfl rfl dX4_strikesNext_0 ?_
  refine jn1_E (fun (x1 : Int32) => sw_V p l e 2 s m args below meth c g (sw_A g s.heap.size) (sw_QI below g args s r st) 2 18 [] [.int x1] st) h (fun x1 h => ?_) (fun k2 J3 h => ?_)
  · exact sw_iret X hr hlk dX4_strikesNext_18 (by cases h; rfl)
  · refine sw_if_le X 17 (by decide) dX4_strikesNext_1 (fun q4 => ?_) (fun q4 => ?_)
    · have h := ite_T h q4
      refine sw_iconst X (v := 0) (by decide) dX4_strikesNext_17 ?_
      refine sw_sub [] rfl ?_
      exact J3 _ h
    · have h := ite_F h q4
      refine sw_aload_n X 0 rfl rfl dX4_strikesNext_4 ?_
      refine sw_iload_n X 1 rfl rfl dX4_strikesNext_5 ?_
      obtain ⟨r6, c5, h⟩ := bo_E h
      refine sw_callVI X (o := t) (As := (fun g => [.int a1])) sw_cl4 (show sw_kd t = 4 from ht) ws_X4_woundNext (by omega) (c_X4_woundNext F (show sw_kd t = 4 from ht) a1 st c5) rfl rfl (Nat.le_of_ble_eq_true rfl) wm_X4_87 dX4_strikesNext_6 ?_
      refine sw_bipush X (v := 10) (by decide) dX4_strikesNext_9 ?_
      refine sw_idiv X (by decide) dX4_strikesNext_11 ?_
      refine sw_iconst X (v := 1) (by decide) dX4_strikesNext_12 ?_
      refine sw_iadd X dX4_strikesNext_13 ?_
      refine sw_goto X 18 (by decide) dX4_strikesNext_14 ?_
      refine sw_sub [] rfl ?_
      exact J3 _ h
theorem dX4_isOf_0 : decode cX4_isOf 0 = .ok (.aload_n 0, 1) := by decide +kernel
theorem dX4_isOf_1 : decode cX4_isOf 1 = .ok (.getfield 15, 3) := by decide +kernel
theorem dX4_isOf_4 : decode cX4_isOf 4 = .ok (.iload_n 1, 1) := by decide +kernel
theorem dX4_isOf_5 : decode cX4_isOf 5 = .ok (.iaload, 1) := by decide +kernel
theorem dX4_isOf_6 : decode cX4_isOf 6 = .ok (.istore_n 3, 1) := by decide +kernel
theorem dX4_isOf_7 : decode cX4_isOf 7 = .ok (.iload_n 3, 1) := by decide +kernel
theorem dX4_isOf_8 : decode cX4_isOf 8 = .ok (.iload_n 2, 1) := by decide +kernel
theorem dX4_isOf_9 : decode cX4_isOf 9 = .ok (.if_icmp .eq 23, 3) := by decide +kernel
theorem dX4_isOf_12 : decode cX4_isOf 12 = .ok (.iload_n 3, 1) := by decide +kernel
theorem dX4_isOf_13 : decode cX4_isOf 13 = .ok (.iconst 4, 1) := by decide +kernel
theorem dX4_isOf_14 : decode cX4_isOf 14 = .ok (.if_icmp .ne 8, 3) := by decide +kernel
theorem dX4_isOf_17 : decode cX4_isOf 17 = .ok (.iload_n 2, 1) := by decide +kernel
theorem dX4_isOf_18 : decode cX4_isOf 18 = .ok (.iconst 1, 1) := by decide +kernel
theorem dX4_isOf_19 : decode cX4_isOf 19 = .ok (.if_icmp .eq 13, 3) := by decide +kernel
theorem dX4_isOf_22 : decode cX4_isOf 22 = .ok (.iload_n 3, 1) := by decide +kernel
theorem dX4_isOf_23 : decode cX4_isOf 23 = .ok (.iconst 5, 1) := by decide +kernel
theorem dX4_isOf_24 : decode cX4_isOf 24 = .ok (.if_icmp .ne 12, 3) := by decide +kernel
theorem dX4_isOf_27 : decode cX4_isOf 27 = .ok (.iload_n 2, 1) := by decide +kernel
theorem dX4_isOf_28 : decode cX4_isOf 28 = .ok (.iconst 2, 1) := by decide +kernel
theorem dX4_isOf_29 : decode cX4_isOf 29 = .ok (.if_icmp .ne 7, 3) := by decide +kernel
theorem dX4_isOf_32 : decode cX4_isOf 32 = .ok (.iconst 1, 1) := by decide +kernel
theorem dX4_isOf_33 : decode cX4_isOf 33 = .ok (.goto 4, 3) := by decide +kernel
theorem dX4_isOf_36 : decode cX4_isOf 36 = .ok (.iconst 0, 1) := by decide +kernel
theorem dX4_isOf_37 : decode cX4_isOf 37 = .ok (.ireturn, 1) := by decide +kernel
def j_X4_isOf (F : Nat) (t : Nat) (a1 : Int32) (a2 : Int32) (st : sw_St) : Option Int32 :=
bnd a1 6 (
nm (st.1 (t + 1) (a1 : Int32).toNatClampNeg) (fun (x2 : Int32) =>
jn (fun (x3 : Int32) => 
  grd (x3 = 0 ∨ x3 = 1) (some (x3 : Int32))) (fun k4 =>
 jn (
   k4 1) (fun k7 =>
  (if x2 = a2 then (
   k7)
  else (
   jn (
     jn (
       k4 0) (fun k12 =>
      (if x2 = 5 then (
       (if a2 = 2 then (
        k7)
       else (
        k12)))
      else (
       k12)))) (fun k10 =>
    (if x2 = 4 then (
     (if a2 = 1 then (
      k7)
     else (
      k10)))
    else (
     k10)))))))))
set_option maxHeartbeats 4000000 in
set_option maxRecDepth 100000 in
theorem c_X4_isOf (F : Nat) {t : Nat} (ht : sw_kd t = 4) (a1 : Int32) (a2 : Int32) (st : sw_St) {r : Int32} (h : j_X4_isOf F t a1 a2 st = some r) : sw_CI yX4_isOf (.code yX4_isOf cX4_isOf 4 (some .boolean)) 1 (fun g => [.ref (g.1 t), .int a1, .int a2]) st r st := by
  refine sw_entI RX4 (fun g => [(0, .ref (g.1 t)), (1, .int a1), (2, .int a2)]) (by decide) rfl (fun _ => Nat.le_of_ble_eq_true rfl) (fun _ => rfl) ?_
  intro p l e s m args below meth c g X hr hlk
  unfold j_X4_isOf at h
  refine sw_aload_n X 0 rfl rfl dX4_isOf_0 ?_
  refine sw_getR X sw_cl4 (show sw_kd t = 4 from ht) (k := 1) rfl (by decide) (o1 := t + 1) (sw_rfT st ht : sw_rf st t 1 = t + 1) wf_X4_15 dX4_isOf_1 ?_
  refine sw_iload_n X 1 rfl rfl dX4_isOf_4 ?_
  obtain ⟨q1, h⟩ := bnd_E h
  refine sw_iald X (show sw_kd (t + 1) = 8 from (sw_tk1 ht)) (n := 6) (sw_tn1 ht) q1 dX4_isOf_5 ?_
  refine sw_topi (fun x2 ex2 => ?_)
  have h := nm_E h ex2
  refine sw_istore_n X [(3, .int x2), (0, .ref (g.1 t)), (1, .int a1), (2, .int a2)] rfl (by decide) rfl dX4_isOf_6 ?_
  refine sw_iload_n X 0 rfl rfl dX4_isOf_7 ?_
  refine sw_iload_n X 3 rfl rfl dX4_isOf_8 ?_
  refine jn1_E (fun (x3 : Int32) => sw_V p l e 1 s m args below meth c g (sw_A g s.heap.size) (sw_QI below g args s r st) 4 37 [] [.int x3] st) h (fun x3 h => ?_) (fun k4 J5 h => ?_)
  · obtain ⟨q6, h⟩ := grd_E h
    exact sw_zret X hr hlk q6 dX4_isOf_37 (by cases h; rfl)
  · refine jn0_E (sw_V p l e 1 s m args below meth c g (sw_A g s.heap.size) (sw_QI below g args s r st) 4 32 [] [] st) h (fun h => ?_) (fun k7 J8 h => ?_)
    · refine sw_iconst X (v := 1) (by decide) dX4_isOf_32 ?_
      refine sw_goto X 37 (by decide) dX4_isOf_33 ?_
      exact J5 _ h
    · refine sw_icmp_eq X 32 (by decide) dX4_isOf_9 (fun q9 => ?_) (fun q9 => ?_)
      · have h := ite_T h q9
        refine sw_sub [] rfl ?_
        exact J8  h
      · have h := ite_F h q9
        refine sw_iload_n X 0 rfl rfl dX4_isOf_12 ?_
        refine sw_iconst X (v := 4) (by decide) dX4_isOf_13 ?_
        refine jn0_E (sw_V p l e 1 s m args below meth c g (sw_A g s.heap.size) (sw_QI below g args s r st) 4 22 [(2, .int a2), (3, .int x2)] [] st) h (fun h => ?_) (fun k10 J11 h => ?_)
        · refine sw_iload_n X 1 rfl rfl dX4_isOf_22 ?_
          refine sw_iconst X (v := 5) (by decide) dX4_isOf_23 ?_
          refine jn0_E (sw_V p l e 1 s m args below meth c g (sw_A g s.heap.size) (sw_QI below g args s r st) 4 36 [] [] st) h (fun h => ?_) (fun k12 J13 h => ?_)
          · refine sw_iconst X (v := 0) (by decide) dX4_isOf_36 ?_
            exact J5 _ h
          · refine sw_icmp_ne X 36 (by decide) dX4_isOf_24 (fun q14 => ?_) (fun q14 => ?_)
            · have h := ite_F h q14
              refine sw_sub [] rfl ?_
              exact J13  h
            · have h := ite_T h q14
              refine sw_iload_n X 0 rfl rfl dX4_isOf_27 ?_
              refine sw_iconst X (v := 2) (by decide) dX4_isOf_28 ?_
              refine sw_icmp_ne X 36 (by decide) dX4_isOf_29 (fun q15 => ?_) (fun q15 => ?_)
              · have h := ite_F h q15
                refine sw_sub [] rfl ?_
                exact J13  h
              · have h := ite_T h q15
                refine sw_sub [] rfl ?_
                exact J8  h
        · refine sw_icmp_ne X 22 (by decide) dX4_isOf_14 (fun q16 => ?_) (fun q16 => ?_)
          · have h := ite_F h q16
            refine sw_sub [3, 0] rfl ?_
            exact J11  h
          · have h := ite_T h q16
            refine sw_iload_n X 3 rfl rfl dX4_isOf_17 ?_
            refine sw_iconst X (v := 1) (by decide) dX4_isOf_18 ?_
            refine sw_icmp_eq X 32 (by decide) dX4_isOf_19 (fun q17 => ?_) (fun q17 => ?_)
            · have h := ite_T h q17
              refine sw_sub [] rfl ?_
              exact J8  h
            · have h := ite_F h q17
              refine sw_sub [3, 0] rfl ?_
              exact J11  h
theorem dX4_allOf_0 : decode cX4_allOf 0 = .ok (.iconst 0, 1) := by decide +kernel
theorem dX4_allOf_1 : decode cX4_allOf 1 = .ok (.istore_n 2, 1) := by decide +kernel
theorem dX4_allOf_2 : decode cX4_allOf 2 = .ok (.iconst 0, 1) := by decide +kernel
theorem dX4_allOf_3 : decode cX4_allOf 3 = .ok (.istore_n 3, 1) := by decide +kernel
theorem dX4_allOf_4 : decode cX4_allOf 4 = .ok (.iload_n 3, 1) := by decide +kernel
theorem dX4_allOf_5 : decode cX4_allOf 5 = .ok (.aload_n 0, 1) := by decide +kernel
theorem dX4_allOf_6 : decode cX4_allOf 6 = .ok (.getfield 9, 3) := by decide +kernel
theorem dX4_allOf_9 : decode cX4_allOf 9 = .ok (.if_icmp .ge 24, 3) := by decide +kernel
theorem dX4_allOf_12 : decode cX4_allOf 12 = .ok (.aload_n 0, 1) := by decide +kernel
theorem dX4_allOf_13 : decode cX4_allOf 13 = .ok (.iload_n 3, 1) := by decide +kernel
theorem dX4_allOf_14 : decode cX4_allOf 14 = .ok (.iload_n 1, 1) := by decide +kernel
theorem dX4_allOf_15 : decode cX4_allOf 15 = .ok (.invokevirtual 90, 3) := by decide +kernel
theorem dX4_allOf_18 : decode cX4_allOf 18 = .ok (.ifCond .eq 9, 3) := by decide +kernel
theorem dX4_allOf_21 : decode cX4_allOf 21 = .ok (.iload_n 2, 1) := by decide +kernel
theorem dX4_allOf_22 : decode cX4_allOf 22 = .ok (.iconst 1, 1) := by decide +kernel
theorem dX4_allOf_23 : decode cX4_allOf 23 = .ok (.iload_n 3, 1) := by decide +kernel
theorem dX4_allOf_24 : decode cX4_allOf 24 = .ok (.ishl, 1) := by decide +kernel
theorem dX4_allOf_25 : decode cX4_allOf 25 = .ok (.ior, 1) := by decide +kernel
theorem dX4_allOf_26 : decode cX4_allOf 26 = .ok (.istore_n 2, 1) := by decide +kernel
theorem dX4_allOf_27 : decode cX4_allOf 27 = .ok (.iinc 3 1, 3) := by decide +kernel
theorem dX4_allOf_30 : decode cX4_allOf 30 = .ok (.goto (-26), 3) := by decide +kernel
theorem dX4_allOf_33 : decode cX4_allOf 33 = .ok (.iload_n 2, 1) := by decide +kernel
theorem dX4_allOf_34 : decode cX4_allOf 34 = .ok (.ireturn, 1) := by decide +kernel
def j_X4_allOf (F : Nat) (t : Nat) (a1 : Int32) (st : sw_St) : Option Int32 :=
lz2 (fun f3 (x1 : Int32) (x2 : Int32) =>
 (if (st.1 t 0) ≤ x2 then (
  some (x1 : Int32))
 else (
  bo (j_X4_isOf F t x2 a1 st) (fun (r7 : Int32) =>
  jn (fun (x8 : Int32) => 
    nm (x2 + 1) (fun (x11 : Int32) =>
    f3 x8 x11)) (fun k9 =>
   (if r7 = 0 then (
    k9 x1)
   else (
    nm (x1 ||| (1 <<< (x2 &&& 31))) (fun (x13 : Int32) =>
    k9 x13)))))))) F 0 0
set_option maxHeartbeats 4000000 in
set_option maxRecDepth 100000 in
theorem c_X4_allOf (F : Nat) {t : Nat} (ht : sw_kd t = 4) (a1 : Int32) (st : sw_St) {r : Int32} (h : j_X4_allOf F t a1 st = some r) : sw_CI yX4_allOf (.code yX4_allOf cX4_allOf 4 (some .int)) 2 (fun g => [.ref (g.1 t), .int a1]) st r st := by
  refine sw_entI RX4 (fun g => [(0, .ref (g.1 t)), (1, .int a1)]) (by decide) rfl (fun _ => Nat.le_of_ble_eq_true rfl) (fun _ => rfl) ?_
  intro p l e s m args below meth c g X hr hlk
  unfold j_X4_allOf at h
  refine sw_iconst X (v := 0) (by decide) dX4_allOf_0 ?_
  refine sw_istore_n X [(2, .int 0), (0, .ref (g.1 t)), (1, .int a1)] rfl (by decide) rfl dX4_allOf_1 ?_
  refine sw_iconst X (v := 0) (by decide) dX4_allOf_2 ?_
  refine sw_istore_n X [(3, .int 0), (2, .int 0), (0, .ref (g.1 t)), (1, .int a1)] rfl (by decide) rfl dX4_allOf_3 ?_
  refine sw_sub [2, 3, 1, 0] rfl ?_
  refine lz2_E (fun (x1 : Int32) (x2 : Int32) => sw_V p l e 2 s m args below meth c g (sw_A g s.heap.size) (sw_QI below g args s r st) 4 4 [(0, .ref (g.1 t)), (1, .int a1), (2, .int x1), (3, .int x2)] [] st) h (fun f3 ih4 x1 x2 h => ?_)
  refine sw_iload_n X 3 rfl rfl dX4_allOf_4 ?_
  refine sw_aload_n X 0 rfl rfl dX4_allOf_5 ?_
  refine sw_getI X sw_cl4 (show sw_kd t = 4 from ht) (k := 0) rfl (by decide) wf_X4_9 dX4_allOf_6 ?_
  refine sw_icmp_ge X 33 (by decide) dX4_allOf_9 (fun q5 => ?_) (fun q5 => ?_)
  · have h := ite_T h q5
    refine sw_iload_n X 2 rfl rfl dX4_allOf_33 ?_
    exact sw_iret X hr hlk dX4_allOf_34 (by cases h; rfl)
  · have h := ite_F h q5
    refine sw_aload_n X 0 rfl rfl dX4_allOf_12 ?_
    refine sw_iload_n X 3 rfl rfl dX4_allOf_13 ?_
    refine sw_iload_n X 1 rfl rfl dX4_allOf_14 ?_
    obtain ⟨r7, c6, h⟩ := bo_E h
    refine sw_callVI X (o := t) (As := (fun g => [.int x2, .int a1])) sw_cl4 (show sw_kd t = 4 from ht) ws_X4_isOf (by omega) (c_X4_isOf F (show sw_kd t = 4 from ht) x2 a1 st c6) rfl rfl (Nat.le_of_ble_eq_true rfl) wm_X4_90 dX4_allOf_15 ?_
    refine jn1_E (fun (x8 : Int32) => sw_V p l e 2 s m args below meth c g (sw_A g s.heap.size) (sw_QI below g args s r st) 4 27 [(0, .ref (g.1 t)), (1, .int a1), (2, .int x8), (3, .int x2)] [] st) h (fun x8 h => ?_) (fun k9 J10 h => ?_)
    · obtain ⟨x11, ex11⟩ : ∃ y : Int32, y = x2 + 1 := ⟨_, rfl⟩
      have h := nm_E h ex11
      refine sw_iinc X 3 x11 [(3, .int x11), (0, .ref (g.1 t)), (1, .int a1), (2, .int x8)] rfl (by rw [ex11]; rfl) (by decide) rfl dX4_allOf_27 ?_
      refine sw_goto X 4 (by decide) dX4_allOf_30 ?_
      refine sw_sub [1, 2, 3, 0] rfl ?_
      exact ih4 _ _ h
    · refine sw_if_eq X 27 (by decide) dX4_allOf_18 (fun q12 => ?_) (fun q12 => ?_)
      · have h := ite_T h q12
        exact J10 _ h
      · have h := ite_F h q12
        refine sw_iload_n X 2 rfl rfl dX4_allOf_21 ?_
        refine sw_iconst X (v := 1) (by decide) dX4_allOf_22 ?_
        refine sw_iload_n X 3 rfl rfl dX4_allOf_23 ?_
        refine sw_ishl X dX4_allOf_24 ?_
        refine sw_ior X dX4_allOf_25 ?_
        refine sw_topi (fun x13 ex13 => ?_)
        have h := nm_E h ex13
        refine sw_istore_n X [(2, .int x13), (0, .ref (g.1 t)), (1, .int a1), (3, .int x2)] rfl (by decide) rfl dX4_allOf_26 ?_
        refine sw_sub [1, 2, 0, 3] rfl ?_
        exact J10 _ h
theorem dX4_turns_0 : decode cX4_turns 0 = .ok (.aload_n 0, 1) := by decide +kernel
theorem dX4_turns_1 : decode cX4_turns 1 = .ok (.getfield 19, 3) := by decide +kernel
theorem dX4_turns_4 : decode cX4_turns 4 = .ok (.iload_n 1, 1) := by decide +kernel
theorem dX4_turns_5 : decode cX4_turns 5 = .ok (.iaload, 1) := by decide +kernel
theorem dX4_turns_6 : decode cX4_turns 6 = .ok (.istore 4, 2) := by decide +kernel
theorem dX4_turns_8 : decode cX4_turns 8 = .ok (.iload_n 3, 1) := by decide +kernel
theorem dX4_turns_9 : decode cX4_turns 9 = .ok (.iconst 1, 1) := by decide +kernel
theorem dX4_turns_10 : decode cX4_turns 10 = .ok (.iload_n 1, 1) := by decide +kernel
theorem dX4_turns_11 : decode cX4_turns 11 = .ok (.ishl, 1) := by decide +kernel
theorem dX4_turns_12 : decode cX4_turns 12 = .ok (.iconst (-1), 1) := by decide +kernel
theorem dX4_turns_13 : decode cX4_turns 13 = .ok (.ixor, 1) := by decide +kernel
theorem dX4_turns_14 : decode cX4_turns 14 = .ok (.iand, 1) := by decide +kernel
theorem dX4_turns_15 : decode cX4_turns 15 = .ok (.istore 5, 2) := by decide +kernel
theorem dX4_turns_17 : decode cX4_turns 17 = .ok (.aload_n 0, 1) := by decide +kernel
theorem dX4_turns_18 : decode cX4_turns 18 = .ok (.getfield 15, 3) := by decide +kernel
theorem dX4_turns_21 : decode cX4_turns 21 = .ok (.iload_n 1, 1) := by decide +kernel
theorem dX4_turns_22 : decode cX4_turns 22 = .ok (.iaload, 1) := by decide +kernel
theorem dX4_turns_23 : decode cX4_turns 23 = .ok (.tableswitch 94 1 5 #[33, 41, 48, 63, 81], 33) := by decide +kernel
theorem dX4_turns_56 : decode cX4_turns 56 = .ok (.iload 4, 2) := by decide +kernel
theorem dX4_turns_58 : decode cX4_turns 58 = .ok (.iload 4, 2) := by decide +kernel
theorem dX4_turns_60 : decode cX4_turns 60 = .ok (.iconst 2, 1) := by decide +kernel
theorem dX4_turns_61 : decode cX4_turns 61 = .ok (.idiv, 1) := by decide +kernel
theorem dX4_turns_62 : decode cX4_turns 62 = .ok (.iadd, 1) := by decide +kernel
theorem dX4_turns_63 : decode cX4_turns 63 = .ok (.ireturn, 1) := by decide +kernel
theorem dX4_turns_64 : decode cX4_turns 64 = .ok (.iload 4, 2) := by decide +kernel
theorem dX4_turns_66 : decode cX4_turns 66 = .ok (.iconst 4, 1) := by decide +kernel
theorem dX4_turns_67 : decode cX4_turns 67 = .ok (.idiv, 1) := by decide +kernel
theorem dX4_turns_68 : decode cX4_turns 68 = .ok (.iconst 1, 1) := by decide +kernel
theorem dX4_turns_69 : decode cX4_turns 69 = .ok (.iadd, 1) := by decide +kernel
theorem dX4_turns_70 : decode cX4_turns 70 = .ok (.ireturn, 1) := by decide +kernel
theorem dX4_turns_71 : decode cX4_turns 71 = .ok (.iload 4, 2) := by decide +kernel
theorem dX4_turns_73 : decode cX4_turns 73 = .ok (.iload 5, 2) := by decide +kernel
theorem dX4_turns_75 : decode cX4_turns 75 = .ok (.aload_n 0, 1) := by decide +kernel
theorem dX4_turns_76 : decode cX4_turns 76 = .ok (.iconst 3, 1) := by decide +kernel
theorem dX4_turns_77 : decode cX4_turns 77 = .ok (.invokevirtual 100, 3) := by decide +kernel
theorem dX4_turns_80 : decode cX4_turns 80 = .ok (.iand, 1) := by decide +kernel
theorem dX4_turns_81 : decode cX4_turns 81 = .ok (.invokestatic 103, 3) := by decide +kernel
theorem dX4_turns_84 : decode cX4_turns 84 = .ok (.iadd, 1) := by decide +kernel
theorem dX4_turns_85 : decode cX4_turns 85 = .ok (.ireturn, 1) := by decide +kernel
theorem dX4_turns_86 : decode cX4_turns 86 = .ok (.iload_n 2, 1) := by decide +kernel
theorem dX4_turns_87 : decode cX4_turns 87 = .ok (.bipush 40, 2) := by decide +kernel
theorem dX4_turns_89 : decode cX4_turns 89 = .ok (.if_icmp .le 7, 3) := by decide +kernel
theorem dX4_turns_92 : decode cX4_turns 92 = .ok (.iconst 0, 1) := by decide +kernel
theorem dX4_turns_93 : decode cX4_turns 93 = .ok (.goto 10, 3) := by decide +kernel
theorem dX4_turns_96 : decode cX4_turns 96 = .ok (.iload 4, 2) := by decide +kernel
theorem dX4_turns_98 : decode cX4_turns 98 = .ok (.iload 4, 2) := by decide +kernel
theorem dX4_turns_100 : decode cX4_turns 100 = .ok (.iconst 2, 1) := by decide +kernel
theorem dX4_turns_101 : decode cX4_turns 101 = .ok (.idiv, 1) := by decide +kernel
theorem dX4_turns_102 : decode cX4_turns 102 = .ok (.iadd, 1) := by decide +kernel
theorem dX4_turns_103 : decode cX4_turns 103 = .ok (.ireturn, 1) := by decide +kernel
theorem dX4_turns_104 : decode cX4_turns 104 = .ok (.iload 4, 2) := by decide +kernel
theorem dX4_turns_106 : decode cX4_turns 106 = .ok (.iconst 4, 1) := by decide +kernel
theorem dX4_turns_107 : decode cX4_turns 107 = .ok (.idiv, 1) := by decide +kernel
theorem dX4_turns_108 : decode cX4_turns 108 = .ok (.iconst 1, 1) := by decide +kernel
theorem dX4_turns_109 : decode cX4_turns 109 = .ok (.iadd, 1) := by decide +kernel
theorem dX4_turns_110 : decode cX4_turns 110 = .ok (.iload 5, 2) := by decide +kernel
theorem dX4_turns_112 : decode cX4_turns 112 = .ok (.invokestatic 103, 3) := by decide +kernel
theorem dX4_turns_115 : decode cX4_turns 115 = .ok (.iadd, 1) := by decide +kernel
theorem dX4_turns_116 : decode cX4_turns 116 = .ok (.ireturn, 1) := by decide +kernel
theorem dX4_turns_117 : decode cX4_turns 117 = .ok (.iload 4, 2) := by decide +kernel
theorem dX4_turns_119 : decode cX4_turns 119 = .ok (.ireturn, 1) := by decide +kernel
def j_X4_turns (F : Nat) (t : Nat) (a1 : Int32) (a2 : Int32) (a3 : Int32) (st : sw_St) : Option Int32 :=
bnd a1 6 (
nm (st.1 (t + 2) (a1 : Int32).toNatClampNeg) (fun (x2 : Int32) =>
nm (a3 &&& ((1 <<< (a1 &&& 31)) ^^^ (-1))) (fun (x3 : Int32) =>
bnd a1 6 (
(if (st.1 (t + 1) (a1 : Int32).toNatClampNeg) = 1 then (
 some (x2 + (x2 / 2) : Int32))
else (
 (if (st.1 (t + 1) (a1 : Int32).toNatClampNeg) = 2 then (
  some ((x2 / 4) + 1 : Int32))
 else (
  (if (st.1 (t + 1) (a1 : Int32).toNatClampNeg) = 3 then (
   bo (j_X4_allOf F t 3 st) (fun (r9 : Int32) =>
   bo (j_J6_bitCount_0f7a4 F (x3 &&& r9) st) (fun (r11 : Int32) =>
   some (x2 + r11 : Int32))))
  else (
   (if (st.1 (t + 1) (a1 : Int32).toNatClampNeg) = 4 then (
    jn (fun (x13 : Int32) => 
      some (x13 : Int32)) (fun k14 =>
     (if a2 ≤ 40 then (
      k14 (x2 + (x2 / 2)))
     else (
      k14 0))))
   else (
    (if (st.1 (t + 1) (a1 : Int32).toNatClampNeg) = 5 then (
     bo (j_J6_bitCount_0f7a4 F x3 st) (fun (r19 : Int32) =>
     some (((x2 / 4) + 1) + r19 : Int32)))
    else (
     some (x2 : Int32)))))))))))))))
set_option maxHeartbeats 4000000 in
set_option maxRecDepth 100000 in
theorem c_X4_turns (F : Nat) {t : Nat} (ht : sw_kd t = 4) (a1 : Int32) (a2 : Int32) (a3 : Int32) (st : sw_St) {r : Int32} (h : j_X4_turns F t a1 a2 a3 st = some r) : sw_CI yX4_turns (.code yX4_turns cX4_turns 6 (some .int)) 3 (fun g => [.ref (g.1 t), .int a1, .int a2, .int a3]) st r st := by
  refine sw_entI RX4 (fun g => [(0, .ref (g.1 t)), (1, .int a1), (2, .int a2), (3, .int a3)]) (by decide) rfl (fun _ => Nat.le_of_ble_eq_true rfl) (fun _ => rfl) ?_
  intro p l e s m args below meth c g X hr hlk
  unfold j_X4_turns at h
  refine sw_aload_n X 0 rfl rfl dX4_turns_0 ?_
  refine sw_getR X sw_cl4 (show sw_kd t = 4 from ht) (k := 2) rfl (by decide) (o1 := t + 2) (sw_rfT st ht : sw_rf st t 2 = t + 2) wf_X4_19 dX4_turns_1 ?_
  refine sw_iload_n X 1 rfl rfl dX4_turns_4 ?_
  obtain ⟨q1, h⟩ := bnd_E h
  refine sw_iald X (show sw_kd (t + 2) = 8 from (sw_tk2 ht)) (n := 6) (sw_tn2 ht) q1 dX4_turns_5 ?_
  refine sw_topi (fun x2 ex2 => ?_)
  have h := nm_E h ex2
  refine sw_istore X [(4, .int x2), (0, .ref (g.1 t)), (1, .int a1), (2, .int a2), (3, .int a3)] (by decide) rfl dX4_turns_6 ?_
  refine sw_iload_n X 4 rfl rfl dX4_turns_8 ?_
  refine sw_iconst X (v := 1) (by decide) dX4_turns_9 ?_
  refine sw_iload_n X 2 rfl rfl dX4_turns_10 ?_
  refine sw_ishl X dX4_turns_11 ?_
  refine sw_iconst X (v := (-1)) (by decide) dX4_turns_12 ?_
  refine sw_ixor X dX4_turns_13 ?_
  refine sw_iand X dX4_turns_14 ?_
  refine sw_topi (fun x3 ex3 => ?_)
  have h := nm_E h ex3
  refine sw_istore X [(5, .int x3), (4, .int x2), (0, .ref (g.1 t)), (1, .int a1), (2, .int a2), (3, .int a3)] (by decide) rfl dX4_turns_15 ?_
  refine sw_aload_n X 2 rfl rfl dX4_turns_17 ?_
  refine sw_getR X sw_cl4 (show sw_kd t = 4 from ht) (k := 1) rfl (by decide) (o1 := t + 1) (sw_rfT st ht : sw_rf st t 1 = t + 1) wf_X4_15 dX4_turns_18 ?_
  refine sw_iload_n X 3 rfl rfl dX4_turns_21 ?_
  obtain ⟨q4, h⟩ := bnd_E h
  refine sw_iald X (show sw_kd (t + 1) = 8 from (sw_tk1 ht)) (n := 6) (sw_tn1 ht) q4 dX4_turns_22 ?_
  by_cases q5 : (st.1 (t + 1) (a1 : Int32).toNatClampNeg) = 1
  · have h := ite_T h q5
    refine sw_tabIn X (k := 1) (off := 33) 56 q5 (by decide) (by decide) (by decide) (by decide) dX4_turns_23 ?_
    refine sw_iload X 1 rfl dX4_turns_56 ?_
    refine sw_iload X 1 rfl dX4_turns_58 ?_
    refine sw_iconst X (v := 2) (by decide) dX4_turns_60 ?_
    refine sw_idiv X (by decide) dX4_turns_61 ?_
    refine sw_iadd X dX4_turns_62 ?_
    exact sw_iret X hr hlk dX4_turns_63 (by cases h; rfl)
  · have h := ite_F h q5
    by_cases q6 : (st.1 (t + 1) (a1 : Int32).toNatClampNeg) = 2
    · have h := ite_T h q6
      refine sw_tabIn X (k := 2) (off := 41) 64 q6 (by decide) (by decide) (by decide) (by decide) dX4_turns_23 ?_
      refine sw_iload X 1 rfl dX4_turns_64 ?_
      refine sw_iconst X (v := 4) (by decide) dX4_turns_66 ?_
      refine sw_idiv X (by decide) dX4_turns_67 ?_
      refine sw_iconst X (v := 1) (by decide) dX4_turns_68 ?_
      refine sw_iadd X dX4_turns_69 ?_
      exact sw_iret X hr hlk dX4_turns_70 (by cases h; rfl)
    · have h := ite_F h q6
      by_cases q7 : (st.1 (t + 1) (a1 : Int32).toNatClampNeg) = 3
      · have h := ite_T h q7
        refine sw_tabIn X (k := 3) (off := 48) 71 q7 (by decide) (by decide) (by decide) (by decide) dX4_turns_23 ?_
        refine sw_iload X 1 rfl dX4_turns_71 ?_
        refine sw_iload X 0 rfl dX4_turns_73 ?_
        refine sw_aload_n X 2 rfl rfl dX4_turns_75 ?_
        refine sw_iconst X (v := 3) (by decide) dX4_turns_76 ?_
        obtain ⟨r9, c8, h⟩ := bo_E h
        refine sw_callVI X (o := t) (As := (fun g => [.int 3])) sw_cl4 (show sw_kd t = 4 from ht) ws_X4_allOf (by omega) (c_X4_allOf F (show sw_kd t = 4 from ht) 3 st c8) rfl rfl (Nat.le_of_ble_eq_true rfl) wm_X4_100 dX4_turns_77 ?_
        refine sw_iand X dX4_turns_80 ?_
        obtain ⟨r11, c10, h⟩ := bo_E h
        refine sw_callSI X (As := (fun g => [.int (x3 &&& r9)])) ws_J6_bitCount_0f7a4 (by omega) (c_J6_bitCount_0f7a4 F (x3 &&& r9) st c10) rfl rfl (Nat.le_of_ble_eq_true rfl) wm_X4_103 dX4_turns_81 ?_
        refine sw_iadd X dX4_turns_84 ?_
        exact sw_iret X hr hlk dX4_turns_85 (by cases h; rfl)
      · have h := ite_F h q7
        by_cases q12 : (st.1 (t + 1) (a1 : Int32).toNatClampNeg) = 4
        · have h := ite_T h q12
          refine sw_tabIn X (k := 4) (off := 63) 86 q12 (by decide) (by decide) (by decide) (by decide) dX4_turns_23 ?_
          refine sw_iload_n X 4 rfl rfl dX4_turns_86 ?_
          refine sw_bipush X (v := 40) (by decide) dX4_turns_87 ?_
          refine jn1_E (fun (x13 : Int32) => sw_V p l e 3 s m args below meth c g (sw_A g s.heap.size) (sw_QI below g args s r st) 6 103 [] [.int x13] st) h (fun x13 h => ?_) (fun k14 J15 h => ?_)
          · exact sw_iret X hr hlk dX4_turns_103 (by cases h; rfl)
          · refine sw_icmp_le X 96 (by decide) dX4_turns_89 (fun q16 => ?_) (fun q16 => ?_)
            · have h := ite_T h q16
              refine sw_iload X 1 rfl dX4_turns_96 ?_
              refine sw_iload X 1 rfl dX4_turns_98 ?_
              refine sw_iconst X (v := 2) (by decide) dX4_turns_100 ?_
              refine sw_idiv X (by decide) dX4_turns_101 ?_
              refine sw_iadd X dX4_turns_102 ?_
              refine sw_sub [] rfl ?_
              exact J15 _ h
            · have h := ite_F h q16
              refine sw_iconst X (v := 0) (by decide) dX4_turns_92 ?_
              refine sw_goto X 103 (by decide) dX4_turns_93 ?_
              refine sw_sub [] rfl ?_
              exact J15 _ h
        · have h := ite_F h q12
          by_cases q17 : (st.1 (t + 1) (a1 : Int32).toNatClampNeg) = 5
          · have h := ite_T h q17
            refine sw_tabIn X (k := 5) (off := 81) 104 q17 (by decide) (by decide) (by decide) (by decide) dX4_turns_23 ?_
            refine sw_iload X 1 rfl dX4_turns_104 ?_
            refine sw_iconst X (v := 4) (by decide) dX4_turns_106 ?_
            refine sw_idiv X (by decide) dX4_turns_107 ?_
            refine sw_iconst X (v := 1) (by decide) dX4_turns_108 ?_
            refine sw_iadd X dX4_turns_109 ?_
            refine sw_iload X 0 rfl dX4_turns_110 ?_
            obtain ⟨r19, c18, h⟩ := bo_E h
            refine sw_callSI X (As := (fun g => [.int x3])) ws_J6_bitCount_0f7a4 (by omega) (c_J6_bitCount_0f7a4 F x3 st c18) rfl rfl (Nat.le_of_ble_eq_true rfl) wm_X4_103 dX4_turns_112 ?_
            refine sw_iadd X dX4_turns_115 ?_
            exact sw_iret X hr hlk dX4_turns_116 (by cases h; rfl)
          · have h := ite_F h q17
            have n0 := lv_neT q5 (show (1 : Int32).toInt = 1 by decide)
            have n1 := lv_neT q6 (show (2 : Int32).toInt = 2 by decide)
            have n2 := lv_neT q7 (show (3 : Int32).toInt = 3 by decide)
            have n3 := lv_neT q12 (show (4 : Int32).toInt = 4 by decide)
            have n4 := lv_neT q17 (show (5 : Int32).toInt = 5 by decide)
            refine sw_tabOut X 117 (by omega) (by decide) dX4_turns_23 ?_
            refine sw_iload X 1 rfl dX4_turns_117 ?_
            exact sw_iret X hr hlk dX4_turns_119 (by cases h; rfl)
theorem dX4_woundBy_0 : decode cX4_woundBy 0 = .ok (.aload_n 0, 1) := by decide +kernel
theorem dX4_woundBy_1 : decode cX4_woundBy 1 = .ok (.iload_n 1, 1) := by decide +kernel
theorem dX4_woundBy_2 : decode cX4_woundBy 2 = .ok (.iload_n 2, 1) := by decide +kernel
theorem dX4_woundBy_3 : decode cX4_woundBy 3 = .ok (.iload_n 3, 1) := by decide +kernel
theorem dX4_woundBy_4 : decode cX4_woundBy 4 = .ok (.invokevirtual 97, 3) := by decide +kernel
theorem dX4_woundBy_7 : decode cX4_woundBy 7 = .ok (.istore 4, 2) := by decide +kernel
theorem dX4_woundBy_9 : decode cX4_woundBy 9 = .ok (.aload_n 0, 1) := by decide +kernel
theorem dX4_woundBy_10 : decode cX4_woundBy 10 = .ok (.getfield 22, 3) := by decide +kernel
theorem dX4_woundBy_13 : decode cX4_woundBy 13 = .ok (.iload_n 1, 1) := by decide +kernel
theorem dX4_woundBy_14 : decode cX4_woundBy 14 = .ok (.iaload, 1) := by decide +kernel
theorem dX4_woundBy_15 : decode cX4_woundBy 15 = .ok (.ifCond .ne 15, 3) := by decide +kernel
theorem dX4_woundBy_18 : decode cX4_woundBy 18 = .ok (.bipush 99, 2) := by decide +kernel
theorem dX4_woundBy_20 : decode cX4_woundBy 20 = .ok (.iload_n 2, 1) := by decide +kernel
theorem dX4_woundBy_21 : decode cX4_woundBy 21 = .ok (.iload 4, 2) := by decide +kernel
theorem dX4_woundBy_23 : decode cX4_woundBy 23 = .ok (.iadd, 1) := by decide +kernel
theorem dX4_woundBy_24 : decode cX4_woundBy 24 = .ok (.invokestatic 114, 3) := by decide +kernel
theorem dX4_woundBy_27 : decode cX4_woundBy 27 = .ok (.goto 11, 3) := by decide +kernel
theorem dX4_woundBy_30 : decode cX4_woundBy 30 = .ok (.iconst 0, 1) := by decide +kernel
theorem dX4_woundBy_31 : decode cX4_woundBy 31 = .ok (.iload_n 2, 1) := by decide +kernel
theorem dX4_woundBy_32 : decode cX4_woundBy 32 = .ok (.iload 4, 2) := by decide +kernel
theorem dX4_woundBy_34 : decode cX4_woundBy 34 = .ok (.isub, 1) := by decide +kernel
theorem dX4_woundBy_35 : decode cX4_woundBy 35 = .ok (.invokestatic 108, 3) := by decide +kernel
theorem dX4_woundBy_38 : decode cX4_woundBy 38 = .ok (.istore 5, 2) := by decide +kernel
theorem dX4_woundBy_40 : decode cX4_woundBy 40 = .ok (.iload 5, 2) := by decide +kernel
theorem dX4_woundBy_42 : decode cX4_woundBy 42 = .ok (.bipush 40, 2) := by decide +kernel
theorem dX4_woundBy_44 : decode cX4_woundBy 44 = .ok (.if_icmp .le 17, 3) := by decide +kernel
theorem dX4_woundBy_47 : decode cX4_woundBy 47 = .ok (.iload 5, 2) := by decide +kernel
theorem dX4_woundBy_49 : decode cX4_woundBy 49 = .ok (.iload 5, 2) := by decide +kernel
theorem dX4_woundBy_51 : decode cX4_woundBy 51 = .ok (.bipush 40, 2) := by decide +kernel
theorem dX4_woundBy_53 : decode cX4_woundBy 53 = .ok (.isub, 1) := by decide +kernel
theorem dX4_woundBy_54 : decode cX4_woundBy 54 = .ok (.bipush 10, 2) := by decide +kernel
theorem dX4_woundBy_56 : decode cX4_woundBy 56 = .ok (.idiv, 1) := by decide +kernel
theorem dX4_woundBy_57 : decode cX4_woundBy 57 = .ok (.isub, 1) := by decide +kernel
theorem dX4_woundBy_58 : decode cX4_woundBy 58 = .ok (.goto 5, 3) := by decide +kernel
theorem dX4_woundBy_61 : decode cX4_woundBy 61 = .ok (.iload 5, 2) := by decide +kernel
theorem dX4_woundBy_63 : decode cX4_woundBy 63 = .ok (.ireturn, 1) := by decide +kernel
def j_X4_woundBy (F : Nat) (t : Nat) (a1 : Int32) (a2 : Int32) (a3 : Int32) (st : sw_St) : Option Int32 :=
bo (j_X4_turns F t a1 a2 a3 st) (fun (r2 : Int32) =>
bnd a1 6 (
jn (fun (x4 : Int32) => 
  jn (fun (x7 : Int32) => 
    some (x7 : Int32)) (fun k8 =>
   (if x4 ≤ 40 then (
    k8 x4)
   else (
    k8 (x4 - ((x4 - 40) / 10)))))) (fun k5 =>
 (if (st.1 (t + 3) (a1 : Int32).toNatClampNeg) = 0 then (
  k5 (if (a2 + r2) < 99 then (a2 + r2) else 99))
 else (
  k5 (if 0 < (a2 - r2) then (a2 - r2) else 0))))))
set_option maxHeartbeats 4000000 in
set_option maxRecDepth 100000 in
theorem c_X4_woundBy (F : Nat) {t : Nat} (ht : sw_kd t = 4) (a1 : Int32) (a2 : Int32) (a3 : Int32) (st : sw_St) {r : Int32} (h : j_X4_woundBy F t a1 a2 a3 st = some r) : sw_CI yX4_woundBy (.code yX4_woundBy cX4_woundBy 6 (some .int)) 4 (fun g => [.ref (g.1 t), .int a1, .int a2, .int a3]) st r st := by
  refine sw_entI RX4 (fun g => [(0, .ref (g.1 t)), (1, .int a1), (2, .int a2), (3, .int a3)]) (by decide) rfl (fun _ => Nat.le_of_ble_eq_true rfl) (fun _ => rfl) ?_
  intro p l e s m args below meth c g X hr hlk
  unfold j_X4_woundBy at h
  refine sw_aload_n X 0 rfl rfl dX4_woundBy_0 ?_
  refine sw_iload_n X 1 rfl rfl dX4_woundBy_1 ?_
  refine sw_iload_n X 2 rfl rfl dX4_woundBy_2 ?_
  refine sw_iload_n X 3 rfl rfl dX4_woundBy_3 ?_
  obtain ⟨r2, c1, h⟩ := bo_E h
  refine sw_callVI X (o := t) (As := (fun g => [.int a1, .int a2, .int a3])) sw_cl4 (show sw_kd t = 4 from ht) ws_X4_turns (by omega) (c_X4_turns F (show sw_kd t = 4 from ht) a1 a2 a3 st c1) rfl rfl (Nat.le_of_ble_eq_true rfl) wm_X4_97 dX4_woundBy_4 ?_
  refine sw_istore X [(4, .int r2), (0, .ref (g.1 t)), (1, .int a1), (2, .int a2), (3, .int a3)] (by decide) rfl dX4_woundBy_7 ?_
  refine sw_aload_n X 1 rfl rfl dX4_woundBy_9 ?_
  refine sw_getR X sw_cl4 (show sw_kd t = 4 from ht) (k := 3) rfl (by decide) (o1 := t + 3) (sw_rfT st ht : sw_rf st t 3 = t + 3) wf_X4_22 dX4_woundBy_10 ?_
  refine sw_iload_n X 2 rfl rfl dX4_woundBy_13 ?_
  obtain ⟨q3, h⟩ := bnd_E h
  refine sw_iald X (show sw_kd (t + 3) = 8 from (sw_tk3 ht)) (n := 6) (sw_tn3 ht) q3 dX4_woundBy_14 ?_
  refine jn1_E (fun (x4 : Int32) => sw_V p l e 4 s m args below meth c g (sw_A g s.heap.size) (sw_QI below g args s r st) 6 38 [] [.int x4] st) h (fun x4 h => ?_) (fun k5 J6 h => ?_)
  · refine sw_istore X [(5, .int x4)] (by decide) rfl dX4_woundBy_38 ?_
    refine sw_iload X 0 rfl dX4_woundBy_40 ?_
    refine sw_bipush X (v := 40) (by decide) dX4_woundBy_42 ?_
    refine jn1_E (fun (x7 : Int32) => sw_V p l e 4 s m args below meth c g (sw_A g s.heap.size) (sw_QI below g args s r st) 6 63 [] [.int x7] st) h (fun x7 h => ?_) (fun k8 J9 h => ?_)
    · exact sw_iret X hr hlk dX4_woundBy_63 (by cases h; rfl)
    · refine sw_icmp_le X 61 (by decide) dX4_woundBy_44 (fun q10 => ?_) (fun q10 => ?_)
      · have h := ite_T h q10
        refine sw_iload X 0 rfl dX4_woundBy_61 ?_
        refine sw_sub [] rfl ?_
        exact J9 _ h
      · have h := ite_F h q10
        refine sw_iload X 0 rfl dX4_woundBy_47 ?_
        refine sw_iload X 0 rfl dX4_woundBy_49 ?_
        refine sw_bipush X (v := 40) (by decide) dX4_woundBy_51 ?_
        refine sw_isub X dX4_woundBy_53 ?_
        refine sw_bipush X (v := 10) (by decide) dX4_woundBy_54 ?_
        refine sw_idiv X (by decide) dX4_woundBy_56 ?_
        refine sw_isub X dX4_woundBy_57 ?_
        refine sw_goto X 63 (by decide) dX4_woundBy_58 ?_
        refine sw_sub [] rfl ?_
        exact J9 _ h
  · refine sw_if_ne X 30 (by decide) dX4_woundBy_15 (fun q11 => ?_) (fun q11 => ?_)
    · have h := ite_F h q11
      refine sw_iconst X (v := 0) (by decide) dX4_woundBy_30 ?_
      refine sw_iload_n X 3 rfl rfl dX4_woundBy_31 ?_
      refine sw_iload X 0 rfl dX4_woundBy_32 ?_
      refine sw_isub X dX4_woundBy_34 ?_
      refine sw_mmax X wm_X4_108 ws_max.1 ws_max.2.1 ws_max.2.2 (by omega) (Nat.le_of_ble_eq_true rfl) dX4_woundBy_35 ?_
      refine sw_sub [] rfl ?_
      exact J6 _ h
    · have h := ite_T h q11
      refine sw_bipush X (v := 99) (by decide) dX4_woundBy_18 ?_
      refine sw_iload_n X 3 rfl rfl dX4_woundBy_20 ?_
      refine sw_iload X 0 rfl dX4_woundBy_21 ?_
      refine sw_iadd X dX4_woundBy_23 ?_
      refine sw_mmin X wm_X4_114 ws_min.1 ws_min.2.1 ws_min.2.2 (by omega) (Nat.le_of_ble_eq_true rfl) dX4_woundBy_24 ?_
      refine sw_goto X 38 (by decide) dX4_woundBy_27 ?_
      refine sw_sub [] rfl ?_
      exact J6 _ h
theorem dX4_woundBySet_0 : decode cX4_woundBySet 0 = .ok (.aload_n 0, 1) := by decide +kernel
theorem dX4_woundBySet_1 : decode cX4_woundBySet 1 = .ok (.getfield 34, 3) := by decide +kernel
theorem dX4_woundBySet_4 : decode cX4_woundBySet 4 = .ok (.istore_n 2, 1) := by decide +kernel
theorem dX4_woundBySet_5 : decode cX4_woundBySet 5 = .ok (.aload_n 0, 1) := by decide +kernel
theorem dX4_woundBySet_6 : decode cX4_woundBySet 6 = .ok (.getfield 46, 3) := by decide +kernel
theorem dX4_woundBySet_9 : decode cX4_woundBySet 9 = .ok (.istore_n 3, 1) := by decide +kernel
theorem dX4_woundBySet_10 : decode cX4_woundBySet 10 = .ok (.iconst 0, 1) := by decide +kernel
theorem dX4_woundBySet_11 : decode cX4_woundBySet 11 = .ok (.istore 4, 2) := by decide +kernel
theorem dX4_woundBySet_13 : decode cX4_woundBySet 13 = .ok (.iload 4, 2) := by decide +kernel
theorem dX4_woundBySet_15 : decode cX4_woundBySet 15 = .ok (.aload_n 0, 1) := by decide +kernel
theorem dX4_woundBySet_16 : decode cX4_woundBySet 16 = .ok (.getfield 9, 3) := by decide +kernel
theorem dX4_woundBySet_19 : decode cX4_woundBySet 19 = .ok (.if_icmp .ge 35, 3) := by decide +kernel
theorem dX4_woundBySet_22 : decode cX4_woundBySet 22 = .ok (.iload_n 1, 1) := by decide +kernel
theorem dX4_woundBySet_23 : decode cX4_woundBySet 23 = .ok (.iload 4, 2) := by decide +kernel
theorem dX4_woundBySet_25 : decode cX4_woundBySet 25 = .ok (.ishr, 1) := by decide +kernel
theorem dX4_woundBySet_26 : decode cX4_woundBySet 26 = .ok (.iconst 1, 1) := by decide +kernel
theorem dX4_woundBySet_27 : decode cX4_woundBySet 27 = .ok (.iand, 1) := by decide +kernel
theorem dX4_woundBySet_28 : decode cX4_woundBySet 28 = .ok (.iconst 1, 1) := by decide +kernel
theorem dX4_woundBySet_29 : decode cX4_woundBySet 29 = .ok (.if_icmp .ne 19, 3) := by decide +kernel
theorem dX4_woundBySet_32 : decode cX4_woundBySet 32 = .ok (.aload_n 0, 1) := by decide +kernel
theorem dX4_woundBySet_33 : decode cX4_woundBySet 33 = .ok (.iload 4, 2) := by decide +kernel
theorem dX4_woundBySet_35 : decode cX4_woundBySet 35 = .ok (.iload_n 2, 1) := by decide +kernel
theorem dX4_woundBySet_36 : decode cX4_woundBySet 36 = .ok (.iload_n 3, 1) := by decide +kernel
theorem dX4_woundBySet_37 : decode cX4_woundBySet 37 = .ok (.invokevirtual 79, 3) := by decide +kernel
theorem dX4_woundBySet_40 : decode cX4_woundBySet 40 = .ok (.istore_n 2, 1) := by decide +kernel
theorem dX4_woundBySet_41 : decode cX4_woundBySet 41 = .ok (.iload_n 3, 1) := by decide +kernel
theorem dX4_woundBySet_42 : decode cX4_woundBySet 42 = .ok (.iconst 1, 1) := by decide +kernel
theorem dX4_woundBySet_43 : decode cX4_woundBySet 43 = .ok (.iload 4, 2) := by decide +kernel
theorem dX4_woundBySet_45 : decode cX4_woundBySet 45 = .ok (.ishl, 1) := by decide +kernel
theorem dX4_woundBySet_46 : decode cX4_woundBySet 46 = .ok (.ior, 1) := by decide +kernel
theorem dX4_woundBySet_47 : decode cX4_woundBySet 47 = .ok (.istore_n 3, 1) := by decide +kernel
theorem dX4_woundBySet_48 : decode cX4_woundBySet 48 = .ok (.iinc 4 1, 3) := by decide +kernel
theorem dX4_woundBySet_51 : decode cX4_woundBySet 51 = .ok (.goto (-38), 3) := by decide +kernel
theorem dX4_woundBySet_54 : decode cX4_woundBySet 54 = .ok (.iload_n 2, 1) := by decide +kernel
theorem dX4_woundBySet_55 : decode cX4_woundBySet 55 = .ok (.ireturn, 1) := by decide +kernel
def j_X4_woundBySet (F : Nat) (t : Nat) (a1 : Int32) (st : sw_St) : Option Int32 :=
nm (st.1 t 7) (fun (x1 : Int32) =>
nm (st.1 t 11) (fun (x2 : Int32) =>
lz3 (fun f6 (x3 : Int32) (x4 : Int32) (x5 : Int32) =>
 (if (st.1 t 0) ≤ x5 then (
  some (x3 : Int32))
 else (
  jn (fun (x9 : Int32) (x10 : Int32) => 
    nm (x5 + 1) (fun (x13 : Int32) =>
    f6 x9 x10 x13)) (fun k11 =>
   (if ((a1 >>> (x5 &&& 31)) &&& 1) = 1 then (
    bo (j_X4_woundBy F t x5 x3 x4 st) (fun (r16 : Int32) =>
    nm (x4 ||| (1 <<< (x5 &&& 31))) (fun (x17 : Int32) =>
    k11 r16 x17)))
   else (
    k11 x3 x4)))))) F x1 x2 0))
set_option maxHeartbeats 4000000 in
set_option maxRecDepth 100000 in
theorem c_X4_woundBySet (F : Nat) {t : Nat} (ht : sw_kd t = 4) (a1 : Int32) (st : sw_St) {r : Int32} (h : j_X4_woundBySet F t a1 st = some r) : sw_CI yX4_woundBySet (.code yX4_woundBySet cX4_woundBySet 5 (some .int)) 5 (fun g => [.ref (g.1 t), .int a1]) st r st := by
  refine sw_entI RX4 (fun g => [(0, .ref (g.1 t)), (1, .int a1)]) (by decide) rfl (fun _ => Nat.le_of_ble_eq_true rfl) (fun _ => rfl) ?_
  intro p l e s m args below meth c g X hr hlk
  unfold j_X4_woundBySet at h
  refine sw_aload_n X 0 rfl rfl dX4_woundBySet_0 ?_
  refine sw_getI X sw_cl4 (show sw_kd t = 4 from ht) (k := 7) rfl (by decide) wf_X4_34 dX4_woundBySet_1 ?_
  refine sw_topi (fun x1 ex1 => ?_)
  have h := nm_E h ex1
  refine sw_istore_n X [(2, .int x1), (0, .ref (g.1 t)), (1, .int a1)] rfl (by decide) rfl dX4_woundBySet_4 ?_
  refine sw_aload_n X 1 rfl rfl dX4_woundBySet_5 ?_
  refine sw_getI X sw_cl4 (show sw_kd t = 4 from ht) (k := 11) rfl (by decide) wf_X4_46 dX4_woundBySet_6 ?_
  refine sw_topi (fun x2 ex2 => ?_)
  have h := nm_E h ex2
  refine sw_istore_n X [(3, .int x2), (2, .int x1), (0, .ref (g.1 t)), (1, .int a1)] rfl (by decide) rfl dX4_woundBySet_9 ?_
  refine sw_iconst X (v := 0) (by decide) dX4_woundBySet_10 ?_
  refine sw_istore X [(4, .int 0), (3, .int x2), (2, .int x1), (0, .ref (g.1 t)), (1, .int a1)] (by decide) rfl dX4_woundBySet_11 ?_
  refine sw_sub [3, 4, 2, 1, 0] rfl ?_
  refine lz3_E (fun (x3 : Int32) (x4 : Int32) (x5 : Int32) => sw_V p l e 5 s m args below meth c g (sw_A g s.heap.size) (sw_QI below g args s r st) 5 13 [(0, .ref (g.1 t)), (1, .int a1), (2, .int x3), (3, .int x4), (4, .int x5)] [] st) h (fun f6 ih7 x3 x4 x5 h => ?_)
  refine sw_iload X 4 rfl dX4_woundBySet_13 ?_
  refine sw_aload_n X 0 rfl rfl dX4_woundBySet_15 ?_
  refine sw_getI X sw_cl4 (show sw_kd t = 4 from ht) (k := 0) rfl (by decide) wf_X4_9 dX4_woundBySet_16 ?_
  refine sw_icmp_ge X 54 (by decide) dX4_woundBySet_19 (fun q8 => ?_) (fun q8 => ?_)
  · have h := ite_T h q8
    refine sw_iload_n X 2 rfl rfl dX4_woundBySet_54 ?_
    exact sw_iret X hr hlk dX4_woundBySet_55 (by cases h; rfl)
  · have h := ite_F h q8
    refine sw_iload_n X 1 rfl rfl dX4_woundBySet_22 ?_
    refine sw_iload X 4 rfl dX4_woundBySet_23 ?_
    refine sw_ishr X dX4_woundBySet_25 ?_
    refine sw_iconst X (v := 1) (by decide) dX4_woundBySet_26 ?_
    refine sw_iand X dX4_woundBySet_27 ?_
    refine sw_iconst X (v := 1) (by decide) dX4_woundBySet_28 ?_
    refine jn2_E (fun (x9 : Int32) (x10 : Int32) => sw_V p l e 5 s m args below meth c g (sw_A g s.heap.size) (sw_QI below g args s r st) 5 48 [(0, .ref (g.1 t)), (1, .int a1), (2, .int x9), (3, .int x10), (4, .int x5)] [] st) h (fun x9 x10 h => ?_) (fun k11 J12 h => ?_)
    · obtain ⟨x13, ex13⟩ : ∃ y : Int32, y = x5 + 1 := ⟨_, rfl⟩
      have h := nm_E h ex13
      refine sw_iinc X 4 x13 [(4, .int x13), (0, .ref (g.1 t)), (1, .int a1), (2, .int x9), (3, .int x10)] rfl (by rw [ex13]; rfl) (by decide) rfl dX4_woundBySet_48 ?_
      refine sw_goto X 13 (by decide) dX4_woundBySet_51 ?_
      refine sw_sub [1, 2, 3, 4, 0] rfl ?_
      exact ih7 _ _ _ h
    · refine sw_icmp_ne X 48 (by decide) dX4_woundBySet_29 (fun q14 => ?_) (fun q14 => ?_)
      · have h := ite_F h q14
        exact J12 _ _ h
      · have h := ite_T h q14
        refine sw_aload_n X 0 rfl rfl dX4_woundBySet_32 ?_
        refine sw_iload X 4 rfl dX4_woundBySet_33 ?_
        refine sw_iload_n X 2 rfl rfl dX4_woundBySet_35 ?_
        refine sw_iload_n X 3 rfl rfl dX4_woundBySet_36 ?_
        obtain ⟨r16, c15, h⟩ := bo_E h
        refine sw_callVI X (o := t) (As := (fun g => [.int x5, .int x3, .int x4])) sw_cl4 (show sw_kd t = 4 from ht) ws_X4_woundBy (by omega) (c_X4_woundBy F (show sw_kd t = 4 from ht) x5 x3 x4 st c15) rfl rfl (Nat.le_of_ble_eq_true rfl) wm_X4_79 dX4_woundBySet_37 ?_
        refine sw_istore_n X [(2, .int r16), (0, .ref (g.1 t)), (1, .int a1), (3, .int x4), (4, .int x5)] rfl (by decide) rfl dX4_woundBySet_40 ?_
        refine sw_iload_n X 3 rfl rfl dX4_woundBySet_41 ?_
        refine sw_iconst X (v := 1) (by decide) dX4_woundBySet_42 ?_
        refine sw_iload X 4 rfl dX4_woundBySet_43 ?_
        refine sw_ishl X dX4_woundBySet_45 ?_
        refine sw_ior X dX4_woundBySet_46 ?_
        refine sw_topi (fun x17 ex17 => ?_)
        have h := nm_E h ex17
        refine sw_istore_n X [(3, .int x17), (2, .int r16), (0, .ref (g.1 t)), (1, .int a1), (4, .int x5)] rfl (by decide) rfl dX4_woundBySet_47 ?_
        refine sw_sub [2, 3, 1, 0, 4] rfl ?_
        exact J12 _ _ h
theorem dX0_search_0 : decode cX0_search 0 = .ok (.aload_n 0, 1) := by decide +kernel
theorem dX0_search_1 : decode cX0_search 1 = .ok (.iconst 0, 1) := by decide +kernel
theorem dX0_search_2 : decode cX0_search 2 = .ok (.putfield 9, 3) := by decide +kernel
theorem dX0_search_5 : decode cX0_search 5 = .ok (.aload_n 0, 1) := by decide +kernel
theorem dX0_search_6 : decode cX0_search 6 = .ok (.bipush (-9), 2) := by decide +kernel
theorem dX0_search_8 : decode cX0_search 8 = .ok (.putfield 15, 3) := by decide +kernel
theorem dX0_search_11 : decode cX0_search 11 = .ok (.aload_n 0, 1) := by decide +kernel
theorem dX0_search_12 : decode cX0_search 12 = .ok (.aload_n 1, 1) := by decide +kernel
theorem dX0_search_13 : decode cX0_search 13 = .ok (.invokevirtual 34, 3) := by decide +kernel
theorem dX0_search_16 : decode cX0_search 16 = .ok (.putfield 18, 3) := by decide +kernel
theorem dX0_search_19 : decode cX0_search 19 = .ok (.aload_n 0, 1) := by decide +kernel
theorem dX0_search_20 : decode cX0_search 20 = .ok (.iconst 0, 1) := by decide +kernel
theorem dX0_search_21 : decode cX0_search 21 = .ok (.putfield 21, 3) := by decide +kernel
theorem dX0_search_24 : decode cX0_search 24 = .ok (.aload_n 0, 1) := by decide +kernel
theorem dX0_search_25 : decode cX0_search 25 = .ok (.bipush 6, 2) := by decide +kernel
theorem dX0_search_27 : decode cX0_search 27 = .ok (.putfield 24, 3) := by decide +kernel
theorem dX0_search_30 : decode cX0_search 30 = .ok (.aload_n 0, 1) := by decide +kernel
theorem dX0_search_31 : decode cX0_search 31 = .ok (.iconst 0, 1) := by decide +kernel
theorem dX0_search_32 : decode cX0_search 32 = .ok (.putfield 27, 3) := by decide +kernel
theorem dX0_search_35 : decode cX0_search 35 = .ok (.aload_n 0, 1) := by decide +kernel
theorem dX0_search_36 : decode cX0_search 36 = .ok (.getfield 30, 3) := by decide +kernel
theorem dX0_search_39 : decode cX0_search 39 = .ok (.iconst 0, 1) := by decide +kernel
theorem dX0_search_40 : decode cX0_search 40 = .ok (.invokestatic 40, 3) := by decide +kernel
theorem dX0_search_43 : decode cX0_search 43 = .ok (.iconst 0, 1) := by decide +kernel
theorem dX0_search_44 : decode cX0_search 44 = .ok (.istore_n 3, 1) := by decide +kernel
theorem dX0_search_45 : decode cX0_search 45 = .ok (.iload_n 3, 1) := by decide +kernel
theorem dX0_search_46 : decode cX0_search 46 = .ok (.aload_n 1, 1) := by decide +kernel
theorem dX0_search_47 : decode cX0_search 47 = .ok (.invokevirtual 46, 3) := by decide +kernel
theorem dX0_search_50 : decode cX0_search 50 = .ok (.if_icmp .ge 36, 3) := by decide +kernel
theorem dX0_search_53 : decode cX0_search 53 = .ok (.iload_n 3, 1) := by decide +kernel
theorem dX0_search_54 : decode cX0_search 54 = .ok (.aload_n 1, 1) := by decide +kernel
theorem dX0_search_55 : decode cX0_search 55 = .ok (.getfield 48, 3) := by decide +kernel
theorem dX0_search_58 : decode cX0_search 58 = .ok (.iand, 1) := by decide +kernel
theorem dX0_search_59 : decode cX0_search 59 = .ok (.ifCond .ne 21, 3) := by decide +kernel
theorem dX0_search_62 : decode cX0_search 62 = .ok (.aload_n 1, 1) := by decide +kernel
theorem dX0_search_63 : decode cX0_search 63 = .ok (.aload_n 1, 1) := by decide +kernel
theorem dX0_search_64 : decode cX0_search 64 = .ok (.iload_n 3, 1) := by decide +kernel
theorem dX0_search_65 : decode cX0_search 65 = .ok (.invokevirtual 51, 3) := by decide +kernel
theorem dX0_search_68 : decode cX0_search 68 = .ok (.invokevirtual 55, 3) := by decide +kernel
theorem dX0_search_71 : decode cX0_search 71 = .ok (.iload_n 2, 1) := by decide +kernel
theorem dX0_search_72 : decode cX0_search 72 = .ok (.if_icmp .ne 8, 3) := by decide +kernel
theorem dX0_search_75 : decode cX0_search 75 = .ok (.aload_n 0, 1) := by decide +kernel
theorem dX0_search_76 : decode cX0_search 76 = .ok (.iload_n 3, 1) := by decide +kernel
theorem dX0_search_77 : decode cX0_search 77 = .ok (.invokevirtual 58, 3) := by decide +kernel
theorem dX0_search_80 : decode cX0_search 80 = .ok (.iinc 3 1, 3) := by decide +kernel
theorem dX0_search_83 : decode cX0_search 83 = .ok (.goto (-38), 3) := by decide +kernel
theorem dX0_search_86 : decode cX0_search 86 = .ok (.return_, 1) := by decide +kernel
def j_X0_search (F : Nat) (a2 : Int32) (st : sw_St) : Option (Unit × sw_St) :=
nm (sw_setC st 60 0 0) (fun (s1 : sw_St) =>
nm (sw_setC s1 60 1 (-9)) (fun (s2 : sw_St) =>
bo (j_X4_notIn F 15 s2) (fun (r4 : Int32) =>
nm (sw_setC s2 60 2 r4) (fun (s5 : sw_St) =>
nm (sw_setC s5 60 3 0) (fun (s6 : sw_St) =>
nm (sw_setC s6 60 4 6) (fun (s7 : sw_St) =>
nm (sw_setC s7 60 5 0) (fun (s8 : sw_St) =>
bd (j_J7_fill_53178 F 61 0 s8) (fun (_ : Unit) (s10 : sw_St) =>
lz2 (fun f13 (x11 : Int32) (s12 : sw_St) =>
 bo (j_X4_sets F 15 s12) (fun (r16 : Int32) =>
 (if r16 ≤ x11 then (
  some ((), s12))
 else (
  jn (fun (s18 : sw_St) => 
    nm (x11 + 1) (fun (x21 : Int32) =>
    f13 x21 s18)) (fun k19 =>
   (if (x11 &&& (s12.1 15 11)) = 0 then (
    bo (j_X4_woundBySet F 15 x11 s12) (fun (r24 : Int32) =>
    bo (j_X4_strikesNext F 15 r24 s12) (fun (r26 : Int32) =>
    (if r26 = a2 then (
     bd (j_X0_tally F x11 s12) (fun (_ : Unit) (s29 : sw_St) =>
     k19 s29))
    else (
     k19 s12)))))
   else (
    k19 s12))))))) F 0 s10))))))))
set_option maxHeartbeats 4000000 in
set_option maxRecDepth 100000 in
theorem c_X0_search (F : Nat) (a2 : Int32) (st : sw_St) {st1 : sw_St} (h : j_X0_search F a2 st = some ((), st1)) : sw_CV yX0_search (.code yX0_search cX0_search 4 none) 6 (fun g => [.ref (g.1 60), .ref (g.1 15), .int a2]) st  st1 := by
  refine sw_entV RX0 (fun g => [(0, .ref (g.1 60)), (1, .ref (g.1 15)), (2, .int a2)]) (by decide) rfl (fun _ => Nat.le_of_ble_eq_true rfl) (fun _ => rfl) ?_
  intro p l e s m args below meth c g X hr hlk
  unfold j_X0_search at h
  refine sw_aload_n X 0 rfl rfl dX0_search_0 ?_
  refine sw_iconst X (v := 0) (by decide) dX0_search_1 ?_
  refine sw_putI X sw_cl0 (show sw_kd 60 = 0 from rfl) (k := 0) rfl (by decide) rfl rfl wf_X0_9 dX0_search_2 (fun s1 es1 => ?_)
  have h := nm_E h es1
  refine sw_aload_n X 0 rfl rfl dX0_search_5 ?_
  refine sw_bipush X (v := (-9)) (by decide) dX0_search_6 ?_
  refine sw_putI X sw_cl0 (show sw_kd 60 = 0 from rfl) (k := 1) rfl (by decide) rfl rfl wf_X0_15 dX0_search_8 (fun s2 es2 => ?_)
  have h := nm_E h es2
  refine sw_aload_n X 0 rfl rfl dX0_search_11 ?_
  refine sw_aload_n X 1 rfl rfl dX0_search_12 ?_
  obtain ⟨r4, c3, h⟩ := bo_E h
  refine sw_callVI X (o := 15) (As := (fun g => [])) sw_cl4 (show sw_kd 15 = 4 from rfl) ws_X4_notIn (by omega) (c_X4_notIn F (show sw_kd 15 = 4 from rfl) s2 c3) rfl rfl (Nat.le_of_ble_eq_true rfl) wm_X0_34 dX0_search_13 ?_
  refine sw_putI X sw_cl0 (show sw_kd 60 = 0 from rfl) (k := 2) rfl (by decide) rfl rfl wf_X0_18 dX0_search_16 (fun s5 es5 => ?_)
  have h := nm_E h es5
  refine sw_aload_n X 0 rfl rfl dX0_search_19 ?_
  refine sw_iconst X (v := 0) (by decide) dX0_search_20 ?_
  refine sw_putI X sw_cl0 (show sw_kd 60 = 0 from rfl) (k := 3) rfl (by decide) rfl rfl wf_X0_21 dX0_search_21 (fun s6 es6 => ?_)
  have h := nm_E h es6
  refine sw_aload_n X 0 rfl rfl dX0_search_24 ?_
  refine sw_bipush X (v := 6) (by decide) dX0_search_25 ?_
  refine sw_putI X sw_cl0 (show sw_kd 60 = 0 from rfl) (k := 4) rfl (by decide) rfl rfl wf_X0_24 dX0_search_27 (fun s7 es7 => ?_)
  have h := nm_E h es7
  refine sw_aload_n X 0 rfl rfl dX0_search_30 ?_
  refine sw_iconst X (v := 0) (by decide) dX0_search_31 ?_
  refine sw_putI X sw_cl0 (show sw_kd 60 = 0 from rfl) (k := 5) rfl (by decide) rfl rfl wf_X0_27 dX0_search_32 (fun s8 es8 => ?_)
  have h := nm_E h es8
  refine sw_aload_n X 0 rfl rfl dX0_search_35 ?_
  refine sw_getR X sw_cl0 (show sw_kd 60 = 0 from rfl) (k := 6) rfl (by decide) (o1 := 61) rfl wf_X0_30 dX0_search_36 ?_
  refine sw_iconst X (v := 0) (by decide) dX0_search_39 ?_
  obtain ⟨u31, s10, c9, h⟩ := bd_E h
  refine sw_callSV X (As := (fun g => [.ref (g.1 61), .int 0])) ws_J7_fill_53178 (by omega) (c_J7_fill_53178 F (show sw_kd 61 = 8 from rfl) 0 s8 c9) rfl rfl (Nat.le_of_ble_eq_true rfl) wm_X0_40 dX0_search_40 ?_
  refine sw_iconst X (v := 0) (by decide) dX0_search_43 ?_
  refine sw_istore_n X [(3, .int 0), (0, .ref (g.1 60)), (1, .ref (g.1 15)), (2, .int a2)] rfl (by decide) rfl dX0_search_44 ?_
  refine sw_sub [1, 2, 3, 0] rfl ?_
  refine lz2_E (fun (x11 : Int32) (s12 : sw_St) => sw_V p l e 6 s m args below meth c g (sw_A g s.heap.size) (sw_QV below g args s  st1) 4 45 [(0, .ref (g.1 60)), (1, .ref (g.1 15)), (2, .int a2), (3, .int x11)] [] s12) h (fun f13 ih14 x11 s12 h => ?_)
  refine sw_iload_n X 3 rfl rfl dX0_search_45 ?_
  refine sw_aload_n X 1 rfl rfl dX0_search_46 ?_
  obtain ⟨r16, c15, h⟩ := bo_E h
  refine sw_callVI X (o := 15) (As := (fun g => [])) sw_cl4 (show sw_kd 15 = 4 from rfl) ws_X4_sets (by omega) (c_X4_sets F (show sw_kd 15 = 4 from rfl) s12 c15) rfl rfl (Nat.le_of_ble_eq_true rfl) wm_X0_46 dX0_search_47 ?_
  refine sw_icmp_ge X 86 (by decide) dX0_search_50 (fun q17 => ?_) (fun q17 => ?_)
  · have h := ite_T h q17
    exact sw_vret X hr hlk dX0_search_86 h
  · have h := ite_F h q17
    refine sw_iload_n X 3 rfl rfl dX0_search_53 ?_
    refine sw_aload_n X 1 rfl rfl dX0_search_54 ?_
    refine sw_getI X sw_cl4 (show sw_kd 15 = 4 from rfl) (k := 11) rfl (by decide) wf_X0_48 dX0_search_55 ?_
    refine sw_iand X dX0_search_58 ?_
    refine jn1_E (fun (s18 : sw_St) => sw_V p l e 6 s m args below meth c g (sw_A g s.heap.size) (sw_QV below g args s  st1) 4 80 [(0, .ref (g.1 60)), (1, .ref (g.1 15)), (2, .int a2), (3, .int x11)] [] s18) h (fun s18 h => ?_) (fun k19 J20 h => ?_)
    · obtain ⟨x21, ex21⟩ : ∃ y : Int32, y = x11 + 1 := ⟨_, rfl⟩
      have h := nm_E h ex21
      refine sw_iinc X 3 x21 [(3, .int x21), (0, .ref (g.1 60)), (1, .ref (g.1 15)), (2, .int a2)] rfl (by rw [ex21]; rfl) (by decide) rfl dX0_search_80 ?_
      refine sw_goto X 45 (by decide) dX0_search_83 ?_
      refine sw_sub [1, 2, 3, 0] rfl ?_
      exact ih14 _ _ h
    · refine sw_if_ne X 80 (by decide) dX0_search_59 (fun q22 => ?_) (fun q22 => ?_)
      · have h := ite_F h q22
        exact J20 _ h
      · have h := ite_T h q22
        refine sw_aload_n X 1 rfl rfl dX0_search_62 ?_
        refine sw_aload_n X 1 rfl rfl dX0_search_63 ?_
        refine sw_iload_n X 3 rfl rfl dX0_search_64 ?_
        obtain ⟨r24, c23, h⟩ := bo_E h
        refine sw_callVI X (o := 15) (As := (fun g => [.int x11])) sw_cl4 (show sw_kd 15 = 4 from rfl) ws_X4_woundBySet (by omega) (c_X4_woundBySet F (show sw_kd 15 = 4 from rfl) x11 s12 c23) rfl rfl (Nat.le_of_ble_eq_true rfl) wm_X0_51 dX0_search_65 ?_
        obtain ⟨r26, c25, h⟩ := bo_E h
        refine sw_callVI X (o := 15) (As := (fun g => [.int r24])) sw_cl4 (show sw_kd 15 = 4 from rfl) ws_X4_strikesNext (by omega) (c_X4_strikesNext F (show sw_kd 15 = 4 from rfl) r24 s12 c25) rfl rfl (Nat.le_of_ble_eq_true rfl) wm_X0_55 dX0_search_68 ?_
        refine sw_iload_n X 2 rfl rfl dX0_search_71 ?_
        refine sw_icmp_ne X 80 (by decide) dX0_search_72 (fun q27 => ?_) (fun q27 => ?_)
        · have h := ite_F h q27
          exact J20 _ h
        · have h := ite_T h q27
          refine sw_aload_n X 0 rfl rfl dX0_search_75 ?_
          refine sw_iload_n X 3 rfl rfl dX0_search_76 ?_
          obtain ⟨u30, s29, c28, h⟩ := bd_E h
          refine sw_callVV X (o := 60) (As := (fun g => [.int x11])) sw_cl0 (show sw_kd 60 = 0 from rfl) ws_X0_tally (by omega) (c_X0_tally F x11 s12 c28) rfl rfl (Nat.le_of_ble_eq_true rfl) wm_X0_58 dX0_search_77 ?_
          exact J20 _ h
theorem dX4_clockAfter_0 : decode cX4_clockAfter 0 = .ok (.aload_n 0, 1) := by decide +kernel
theorem dX4_clockAfter_1 : decode cX4_clockAfter 1 = .ok (.getfield 40, 3) := by decide +kernel
theorem dX4_clockAfter_4 : decode cX4_clockAfter 4 = .ok (.iload_n 1, 1) := by decide +kernel
theorem dX4_clockAfter_5 : decode cX4_clockAfter 5 = .ok (.iadd, 1) := by decide +kernel
theorem dX4_clockAfter_6 : decode cX4_clockAfter 6 = .ok (.bipush 12, 2) := by decide +kernel
theorem dX4_clockAfter_8 : decode cX4_clockAfter 8 = .ok (.irem, 1) := by decide +kernel
theorem dX4_clockAfter_9 : decode cX4_clockAfter 9 = .ok (.ireturn, 1) := by decide +kernel
def j_X4_clockAfter (F : Nat) (t : Nat) (a1 : Int32) (st : sw_St) : Option Int32 :=
some (((st.1 t 9) + a1) - ((st.1 t 9) + a1) / 12 * 12 : Int32)
set_option maxHeartbeats 4000000 in
set_option maxRecDepth 100000 in
theorem c_X4_clockAfter (F : Nat) {t : Nat} (ht : sw_kd t = 4) (a1 : Int32) (st : sw_St) {r : Int32} (h : j_X4_clockAfter F t a1 st = some r) : sw_CI yX4_clockAfter (.code yX4_clockAfter cX4_clockAfter 2 (some .int)) 1 (fun g => [.ref (g.1 t), .int a1]) st r st := by
  refine sw_entI RX4 (fun g => [(0, .ref (g.1 t)), (1, .int a1)]) (by decide) rfl (fun _ => Nat.le_of_ble_eq_true rfl) (fun _ => rfl) ?_
  intro p l e s m args below meth c g X hr hlk
  unfold j_X4_clockAfter at h
  refine sw_aload_n X 0 rfl rfl dX4_clockAfter_0 ?_
  refine sw_getI X sw_cl4 (show sw_kd t = 4 from ht) (k := 9) rfl (by decide) wf_X4_40 dX4_clockAfter_1 ?_
  refine sw_iload_n X 1 rfl rfl dX4_clockAfter_4 ?_
  refine sw_iadd X dX4_clockAfter_5 ?_
  refine sw_bipush X (v := 12) (by decide) dX4_clockAfter_6 ?_
  refine sw_irem X (by decide) dX4_clockAfter_8 ?_
  exact sw_iret X hr hlk dX4_clockAfter_9 (by cases h; rfl)
