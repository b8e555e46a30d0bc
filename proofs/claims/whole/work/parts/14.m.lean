theorem dX5_tear_0 : decode cX5_tear 0 = .ok (.iload_n 1, 1) := by decide +kernel
theorem dX5_tear_1 : decode cX5_tear 1 = .ok (.invokestatic 95, 3) := by decide +kernel
theorem dX5_tear_4 : decode cX5_tear 4 = .ok (.ifCond .ne 5, 3) := by decide +kernel
theorem dX5_tear_7 : decode cX5_tear 7 = .ok (.iconst (-1), 1) := by decide +kernel
theorem dX5_tear_8 : decode cX5_tear 8 = .ok (.ireturn, 1) := by decide +kernel
theorem dX5_tear_9 : decode cX5_tear 9 = .ok (.aload_n 0, 1) := by decide +kernel
theorem dX5_tear_10 : decode cX5_tear 10 = .ok (.getfield 14, 3) := by decide +kernel
theorem dX5_tear_13 : decode cX5_tear 13 = .ok (.iload_n 1, 1) := by decide +kernel
theorem dX5_tear_14 : decode cX5_tear 14 = .ok (.iaload, 1) := by decide +kernel
theorem dX5_tear_15 : decode cX5_tear 15 = .ok (.ifCond .ge 9, 3) := by decide +kernel
theorem dX5_tear_18 : decode cX5_tear 18 = .ok (.aload_n 0, 1) := by decide +kernel
theorem dX5_tear_19 : decode cX5_tear 19 = .ok (.iconst 1, 1) := by decide +kernel
theorem dX5_tear_20 : decode cX5_tear 20 = .ok (.invokevirtual 99, 3) := by decide +kernel
theorem dX5_tear_23 : decode cX5_tear 23 = .ok (.ireturn, 1) := by decide +kernel
theorem dX5_tear_24 : decode cX5_tear 24 = .ok (.aload_n 0, 1) := by decide +kernel
theorem dX5_tear_25 : decode cX5_tear 25 = .ok (.getfield 14, 3) := by decide +kernel
theorem dX5_tear_28 : decode cX5_tear 28 = .ok (.iload_n 1, 1) := by decide +kernel
theorem dX5_tear_29 : decode cX5_tear 29 = .ok (.iconst (-1), 1) := by decide +kernel
theorem dX5_tear_30 : decode cX5_tear 30 = .ok (.iastore, 1) := by decide +kernel
theorem dX5_tear_31 : decode cX5_tear 31 = .ok (.iconst 1, 1) := by decide +kernel
theorem dX5_tear_32 : decode cX5_tear 32 = .ok (.ireturn, 1) := by decide +kernel
def j_X5_tear (F : Nat) (a1 : Int32) (st : sw_St) : Option (Int32 × sw_St) :=
bo (j_X5_isRow F a1 st) (fun (r2 : Int32) =>
(if r2 = 0 then (
 some (((-1) : Int32), st))
else (
 bnd a1 6 (
 (if 0 ≤ (st.1 8 (a1 : Int32).toNatClampNeg) then (
  bnd a1 6 (
  nm (sw_setC st 8 (a1 : Int32).toNatClampNeg (-1)) (fun (s7 : sw_St) =>
  some ((1 : Int32), s7))))
 else (
  bd (j_X5_found F 1 st) (fun (r9 : Int32) (s10 : sw_St) =>
  some ((r9 : Int32), s10))))))))
set_option maxHeartbeats 4000000 in
set_option maxRecDepth 100000 in
theorem c_X5_tear (F : Nat) (a1 : Int32) (st : sw_St) {r : Int32} {st1 : sw_St} (h : j_X5_tear F a1 st = some (r, st1)) : sw_CI yX5_tear (.code yX5_tear cX5_tear 2 (some .int)) 2 (fun g => [.ref (g.1 0), .int a1]) st r st1 := by
  refine sw_entI RX5 (fun g => [(0, .ref (g.1 0)), (1, .int a1)]) (by decide) rfl (fun _ => Nat.le_of_ble_eq_true rfl) (fun _ => rfl) ?_
  intro p l e s m args below meth c g X hr hlk
  unfold j_X5_tear at h
  refine sw_iload_n X 1 rfl rfl dX5_tear_0 ?_
  obtain ⟨r2, c1, h⟩ := bo_E h
  refine sw_callSI X (As := (fun g => [.int a1])) ws_X5_isRow (by omega) (c_X5_isRow F a1 st c1) rfl rfl (Nat.le_of_ble_eq_true rfl) wm_X5_95 dX5_tear_1 ?_
  refine sw_if_ne X 9 (by decide) dX5_tear_4 (fun q3 => ?_) (fun q3 => ?_)
  · have h := ite_F h q3
    refine sw_aload_n X 0 rfl rfl dX5_tear_9 ?_
    refine sw_getR X sw_cl5 (show sw_kd 0 = 5 from rfl) (k := 1) rfl (by decide) (o1 := 8) rfl wf_X5_14 dX5_tear_10 ?_
    refine sw_iload_n X 1 rfl rfl dX5_tear_13 ?_
    obtain ⟨q4, h⟩ := bnd_E h
    refine sw_iald X (show sw_kd 8 = 8 from rfl) (n := 6) rfl q4 dX5_tear_14 ?_
    refine sw_if_ge X 24 (by decide) dX5_tear_15 (fun q5 => ?_) (fun q5 => ?_)
    · have h := ite_T h q5
      refine sw_aload_n X 0 rfl rfl dX5_tear_24 ?_
      refine sw_getR X sw_cl5 (show sw_kd 0 = 5 from rfl) (k := 1) rfl (by decide) (o1 := 8) rfl wf_X5_14 dX5_tear_25 ?_
      refine sw_iload_n X 1 rfl rfl dX5_tear_28 ?_
      refine sw_iconst X (v := (-1)) (by decide) dX5_tear_29 ?_
      obtain ⟨q6, h⟩ := bnd_E h
      refine sw_iast X (show sw_kd 8 = 8 from rfl) (n := 6) rfl q6 dX5_tear_30 (fun s7 es7 => ?_)
      have h := nm_E h es7
      refine sw_iconst X (v := 1) (by decide) dX5_tear_31 ?_
      exact sw_iret X hr hlk dX5_tear_32 h
    · have h := ite_F h q5
      refine sw_aload_n X 0 rfl rfl dX5_tear_18 ?_
      refine sw_iconst X (v := 1) (by decide) dX5_tear_19 ?_
      obtain ⟨r9, s10, c8, h⟩ := bd_E h
      refine sw_callVI X (o := 0) (As := (fun g => [.int 1])) sw_cl5 (show sw_kd 0 = 5 from rfl) ws_X5_found (by omega) (c_X5_found F 1 st c8) rfl rfl (Nat.le_of_ble_eq_true rfl) wm_X5_99 dX5_tear_20 ?_
      exact sw_iret X hr hlk dX5_tear_23 h
  · have h := ite_T h q3
    refine sw_iconst X (v := (-1)) (by decide) dX5_tear_7 ?_
    exact sw_iret X hr hlk dX5_tear_8 h
theorem dX5_isSpan_0 : decode cX5_isSpan 0 = .ok (.iload_n 0, 1) := by decide +kernel
theorem dX5_isSpan_1 : decode cX5_isSpan 1 = .ok (.ifCond .lt 14, 3) := by decide +kernel
theorem dX5_isSpan_4 : decode cX5_isSpan 4 = .ok (.iload_n 0, 1) := by decide +kernel
theorem dX5_isSpan_5 : decode cX5_isSpan 5 = .ok (.iload_n 2, 1) := by decide +kernel
theorem dX5_isSpan_6 : decode cX5_isSpan 6 = .ok (.iload_n 1, 1) := by decide +kernel
theorem dX5_isSpan_7 : decode cX5_isSpan 7 = .ok (.isub, 1) := by decide +kernel
theorem dX5_isSpan_8 : decode cX5_isSpan 8 = .ok (.if_icmp .gt 7, 3) := by decide +kernel
theorem dX5_isSpan_11 : decode cX5_isSpan 11 = .ok (.iconst 1, 1) := by decide +kernel
theorem dX5_isSpan_12 : decode cX5_isSpan 12 = .ok (.goto 4, 3) := by decide +kernel
theorem dX5_isSpan_15 : decode cX5_isSpan 15 = .ok (.iconst 0, 1) := by decide +kernel
theorem dX5_isSpan_16 : decode cX5_isSpan 16 = .ok (.ireturn, 1) := by decide +kernel
def j_X5_isSpan (F : Nat) (a1 : Int32) (a2 : Int32) (a3 : Int32) (st : sw_St) : Option Int32 :=
jn (fun (x1 : Int32) => 
  grd (x1 = 0 ∨ x1 = 1) (some (x1 : Int32))) (fun k2 =>
 jn (
   k2 0) (fun k5 =>
  (if a1 < 0 then (
   k5)
  else (
   (if (a3 - a2) < a1 then (
    k5)
   else (
    k2 1))))))
set_option maxHeartbeats 4000000 in
set_option maxRecDepth 100000 in
theorem c_X5_isSpan (F : Nat) (a1 : Int32) (a2 : Int32) (a3 : Int32) (st : sw_St) {r : Int32} (h : j_X5_isSpan F a1 a2 a3 st = some r) : sw_CI yX5_isSpan (.code yX5_isSpan cX5_isSpan 3 (some .boolean)) 1 (fun g => [.int a1, .int a2, .int a3]) st r st := by
  refine sw_entI RX5 (fun g => [(0, .int a1), (1, .int a2), (2, .int a3)]) (by decide) rfl (fun _ => Nat.le_of_ble_eq_true rfl) (fun _ => rfl) ?_
  intro p l e s m args below meth c g X hr hlk
  unfold j_X5_isSpan at h
  refine sw_iload_n X 0 rfl rfl dX5_isSpan_0 ?_
  refine jn1_E (fun (x1 : Int32) => sw_V p l e 1 s m args below meth c g (sw_A g s.heap.size) (sw_QI below g args s r st) 3 16 [] [.int x1] st) h (fun x1 h => ?_) (fun k2 J3 h => ?_)
  · obtain ⟨q4, h⟩ := grd_E h
    exact sw_zret X hr hlk q4 dX5_isSpan_16 (by cases h; rfl)
  · refine jn0_E (sw_V p l e 1 s m args below meth c g (sw_A g s.heap.size) (sw_QI below g args s r st) 3 15 [] [] st) h (fun h => ?_) (fun k5 J6 h => ?_)
    · refine sw_iconst X (v := 0) (by decide) dX5_isSpan_15 ?_
      exact J3 _ h
    · refine sw_if_lt X 15 (by decide) dX5_isSpan_1 (fun q7 => ?_) (fun q7 => ?_)
      · have h := ite_T h q7
        refine sw_sub [] rfl ?_
        exact J6  h
      · have h := ite_F h q7
        refine sw_iload_n X 0 rfl rfl dX5_isSpan_4 ?_
        refine sw_iload_n X 2 rfl rfl dX5_isSpan_5 ?_
        refine sw_iload_n X 1 rfl rfl dX5_isSpan_6 ?_
        refine sw_isub X dX5_isSpan_7 ?_
        refine sw_icmp_gt X 15 (by decide) dX5_isSpan_8 (fun q8 => ?_) (fun q8 => ?_)
        · have h := ite_T h q8
          refine sw_sub [] rfl ?_
          exact J6  h
        · have h := ite_F h q8
          refine sw_iconst X (v := 1) (by decide) dX5_isSpan_11 ?_
          refine sw_goto X 16 (by decide) dX5_isSpan_12 ?_
          refine sw_sub [] rfl ?_
          exact J3 _ h
theorem dX5_copy_0 : decode cX5_copy 0 = .ok (.iload_n 1, 1) := by decide +kernel
theorem dX5_copy_1 : decode cX5_copy 1 = .ok (.invokestatic 95, 3) := by decide +kernel
theorem dX5_copy_4 : decode cX5_copy 4 = .ok (.ifCond .eq 10, 3) := by decide +kernel
theorem dX5_copy_7 : decode cX5_copy 7 = .ok (.iload_n 3, 1) := by decide +kernel
theorem dX5_copy_8 : decode cX5_copy 8 = .ok (.invokestatic 95, 3) := by decide +kernel
theorem dX5_copy_11 : decode cX5_copy 11 = .ok (.ifCond .ne 5, 3) := by decide +kernel
theorem dX5_copy_14 : decode cX5_copy 14 = .ok (.iconst (-1), 1) := by decide +kernel
theorem dX5_copy_15 : decode cX5_copy 15 = .ok (.ireturn, 1) := by decide +kernel
theorem dX5_copy_16 : decode cX5_copy 16 = .ok (.iload 5, 2) := by decide +kernel
theorem dX5_copy_18 : decode cX5_copy 18 = .ok (.ifCond .ge 9, 3) := by decide +kernel
theorem dX5_copy_21 : decode cX5_copy 21 = .ok (.aload_n 0, 1) := by decide +kernel
theorem dX5_copy_22 : decode cX5_copy 22 = .ok (.iconst 5, 1) := by decide +kernel
theorem dX5_copy_23 : decode cX5_copy 23 = .ok (.invokevirtual 99, 3) := by decide +kernel
theorem dX5_copy_26 : decode cX5_copy 26 = .ok (.ireturn, 1) := by decide +kernel
theorem dX5_copy_27 : decode cX5_copy 27 = .ok (.aload_n 0, 1) := by decide +kernel
theorem dX5_copy_28 : decode cX5_copy 28 = .ok (.getfield 14, 3) := by decide +kernel
theorem dX5_copy_31 : decode cX5_copy 31 = .ok (.iload_n 1, 1) := by decide +kernel
theorem dX5_copy_32 : decode cX5_copy 32 = .ok (.iaload, 1) := by decide +kernel
theorem dX5_copy_33 : decode cX5_copy 33 = .ok (.ifCond .lt 12, 3) := by decide +kernel
theorem dX5_copy_36 : decode cX5_copy 36 = .ok (.aload_n 0, 1) := by decide +kernel
theorem dX5_copy_37 : decode cX5_copy 37 = .ok (.getfield 14, 3) := by decide +kernel
theorem dX5_copy_40 : decode cX5_copy 40 = .ok (.iload_n 3, 1) := by decide +kernel
theorem dX5_copy_41 : decode cX5_copy 41 = .ok (.iaload, 1) := by decide +kernel
theorem dX5_copy_42 : decode cX5_copy 42 = .ok (.ifCond .ge 9, 3) := by decide +kernel
theorem dX5_copy_45 : decode cX5_copy 45 = .ok (.aload_n 0, 1) := by decide +kernel
theorem dX5_copy_46 : decode cX5_copy 46 = .ok (.iconst 1, 1) := by decide +kernel
theorem dX5_copy_47 : decode cX5_copy 47 = .ok (.invokevirtual 99, 3) := by decide +kernel
theorem dX5_copy_50 : decode cX5_copy 50 = .ok (.ireturn, 1) := by decide +kernel
theorem dX5_copy_51 : decode cX5_copy 51 = .ok (.iload_n 2, 1) := by decide +kernel
theorem dX5_copy_52 : decode cX5_copy 52 = .ok (.iload 5, 2) := by decide +kernel
theorem dX5_copy_54 : decode cX5_copy 54 = .ok (.aload_n 0, 1) := by decide +kernel
theorem dX5_copy_55 : decode cX5_copy 55 = .ok (.getfield 14, 3) := by decide +kernel
theorem dX5_copy_58 : decode cX5_copy 58 = .ok (.iload_n 1, 1) := by decide +kernel
theorem dX5_copy_59 : decode cX5_copy 59 = .ok (.iaload, 1) := by decide +kernel
theorem dX5_copy_60 : decode cX5_copy 60 = .ok (.invokestatic 107, 3) := by decide +kernel
theorem dX5_copy_63 : decode cX5_copy 63 = .ok (.ifCond .eq 19, 3) := by decide +kernel
theorem dX5_copy_66 : decode cX5_copy 66 = .ok (.iload 4, 2) := by decide +kernel
theorem dX5_copy_68 : decode cX5_copy 68 = .ok (.iload 5, 2) := by decide +kernel
theorem dX5_copy_70 : decode cX5_copy 70 = .ok (.aload_n 0, 1) := by decide +kernel
theorem dX5_copy_71 : decode cX5_copy 71 = .ok (.getfield 14, 3) := by decide +kernel
theorem dX5_copy_74 : decode cX5_copy 74 = .ok (.iload_n 3, 1) := by decide +kernel
theorem dX5_copy_75 : decode cX5_copy 75 = .ok (.iaload, 1) := by decide +kernel
theorem dX5_copy_76 : decode cX5_copy 76 = .ok (.invokestatic 107, 3) := by decide +kernel
theorem dX5_copy_79 : decode cX5_copy 79 = .ok (.ifCond .ne 9, 3) := by decide +kernel
theorem dX5_copy_82 : decode cX5_copy 82 = .ok (.aload_n 0, 1) := by decide +kernel
theorem dX5_copy_83 : decode cX5_copy 83 = .ok (.iconst 2, 1) := by decide +kernel
theorem dX5_copy_84 : decode cX5_copy 84 = .ok (.invokevirtual 99, 3) := by decide +kernel
theorem dX5_copy_87 : decode cX5_copy 87 = .ok (.ireturn, 1) := by decide +kernel
theorem dX5_copy_88 : decode cX5_copy 88 = .ok (.aload_n 0, 1) := by decide +kernel
theorem dX5_copy_89 : decode cX5_copy 89 = .ok (.getfield 11, 3) := by decide +kernel
theorem dX5_copy_92 : decode cX5_copy 92 = .ok (.iload_n 1, 1) := by decide +kernel
theorem dX5_copy_93 : decode cX5_copy 93 = .ok (.aaload, 1) := by decide +kernel
theorem dX5_copy_94 : decode cX5_copy 94 = .ok (.iload_n 2, 1) := by decide +kernel
theorem dX5_copy_95 : decode cX5_copy 95 = .ok (.aload_n 0, 1) := by decide +kernel
theorem dX5_copy_96 : decode cX5_copy 96 = .ok (.getfield 11, 3) := by decide +kernel
theorem dX5_copy_99 : decode cX5_copy 99 = .ok (.iload_n 3, 1) := by decide +kernel
theorem dX5_copy_100 : decode cX5_copy 100 = .ok (.aaload, 1) := by decide +kernel
theorem dX5_copy_101 : decode cX5_copy 101 = .ok (.iload 4, 2) := by decide +kernel
theorem dX5_copy_103 : decode cX5_copy 103 = .ok (.iload 5, 2) := by decide +kernel
theorem dX5_copy_105 : decode cX5_copy 105 = .ok (.invokestatic 111, 3) := by decide +kernel
theorem dX5_copy_108 : decode cX5_copy 108 = .ok (.iconst 1, 1) := by decide +kernel
theorem dX5_copy_109 : decode cX5_copy 109 = .ok (.ireturn, 1) := by decide +kernel
def j_X5_copy (F : Nat) (a1 : Int32) (a2 : Int32) (a3 : Int32) (a4 : Int32) (a5 : Int32) (st : sw_St) : Option (Int32 × sw_St) :=
bo (j_X5_isRow F a1 st) (fun (r2 : Int32) =>
jn (
  some (((-1) : Int32), st)) (fun k3 =>
 (if r2 = 0 then (
  k3)
 else (
  bo (j_X5_isRow F a3 st) (fun (r7 : Int32) =>
  (if r7 = 0 then (
   k3)
  else (
   (if 0 ≤ a5 then (
    bnd a1 6 (
    jn (
      bd (j_X5_found F 1 st) (fun (r14 : Int32) (s15 : sw_St) =>
      some ((r14 : Int32), s15))) (fun k11 =>
     (if (st.1 8 (a1 : Int32).toNatClampNeg) < 0 then (
      k11)
     else (
      bnd a3 6 (
      (if 0 ≤ (st.1 8 (a3 : Int32).toNatClampNeg) then (
       bnd a1 6 (
       bo (j_X5_isSpan F a2 a5 (st.1 8 (a1 : Int32).toNatClampNeg) st) (fun (r21 : Int32) =>
       jn (
         bd (j_X5_found F 2 st) (fun (r25 : Int32) (s26 : sw_St) =>
         some ((r25 : Int32), s26))) (fun k22 =>
        (if r21 = 0 then (
         k22)
        else (
         bnd a3 6 (
         bo (j_X5_isSpan F a4 a5 (st.1 8 (a3 : Int32).toNatClampNeg) st) (fun (r30 : Int32) =>
         (if r30 = 0 then (
          k22)
         else (
          bnd a1 6 (
          bnd a3 6 (
          grd ((¬ a2 < (0 : Int32)) ∧ (¬ a4 < (0 : Int32)) ∧ (¬ a5 < (0 : Int32)) ∧ (a2 : Int32).toNatClampNeg + (a5 : Int32).toNatClampNeg ≤ 40 ∧ (a4 : Int32).toNatClampNeg + (a5 : Int32).toNatClampNeg ≤ 40) (
          nm (sw_setA st (2 + (a3 : Int32).toNatClampNeg) (va_cpy (st.1 (2 + (a1 : Int32).toNatClampNeg)) (st.1 (2 + (a3 : Int32).toNatClampNeg)) (a2 : Int32).toNatClampNeg (a4 : Int32).toNatClampNeg (a5 : Int32).toNatClampNeg)) (fun (s34 : sw_St) =>
          some ((1 : Int32), s34)))))))))))))))
      else (
       k11))))))))
   else (
    bd (j_X5_found F 5 st) (fun (r37 : Int32) (s38 : sw_St) =>
    some ((r37 : Int32), s38)))))))))))
set_option maxHeartbeats 4000000 in
set_option maxRecDepth 100000 in
theorem c_X5_copy (F : Nat) (a1 : Int32) (a2 : Int32) (a3 : Int32) (a4 : Int32) (a5 : Int32) (st : sw_St) {r : Int32} {st1 : sw_St} (h : j_X5_copy F a1 a2 a3 a4 a5 st = some (r, st1)) : sw_CI yX5_copy (.code yX5_copy cX5_copy 6 (some .int)) 2 (fun g => [.ref (g.1 0), .int a1, .int a2, .int a3, .int a4, .int a5]) st r st1 := by
  refine sw_entI RX5 (fun g => [(0, .ref (g.1 0)), (1, .int a1), (2, .int a2), (3, .int a3), (4, .int a4), (5, .int a5)]) (by decide) rfl (fun _ => Nat.le_of_ble_eq_true rfl) (fun _ => rfl) ?_
  intro p l e s m args below meth c g X hr hlk
  unfold j_X5_copy at h
  refine sw_iload_n X 1 rfl rfl dX5_copy_0 ?_
  obtain ⟨r2, c1, h⟩ := bo_E h
  refine sw_callSI X (As := (fun g => [.int a1])) ws_X5_isRow (by omega) (c_X5_isRow F a1 st c1) rfl rfl (Nat.le_of_ble_eq_true rfl) wm_X5_95 dX5_copy_1 ?_
  refine jn0_E (sw_V p l e 2 s m args below meth c g (sw_A g s.heap.size) (sw_QI below g args s r st1) 6 14 [] [] st) h (fun h => ?_) (fun k3 J4 h => ?_)
  · refine sw_iconst X (v := (-1)) (by decide) dX5_copy_14 ?_
    exact sw_iret X hr hlk dX5_copy_15 h
  · refine sw_if_eq X 14 (by decide) dX5_copy_4 (fun q5 => ?_) (fun q5 => ?_)
    · have h := ite_T h q5
      refine sw_sub [] rfl ?_
      exact J4  h
    · have h := ite_F h q5
      refine sw_iload_n X 3 rfl rfl dX5_copy_7 ?_
      obtain ⟨r7, c6, h⟩ := bo_E h
      refine sw_callSI X (As := (fun g => [.int a3])) ws_X5_isRow (by omega) (c_X5_isRow F a3 st c6) rfl rfl (Nat.le_of_ble_eq_true rfl) wm_X5_95 dX5_copy_8 ?_
      refine sw_if_ne X 16 (by decide) dX5_copy_11 (fun q8 => ?_) (fun q8 => ?_)
      · have h := ite_F h q8
        refine sw_iload X 5 rfl dX5_copy_16 ?_
        refine sw_if_ge X 27 (by decide) dX5_copy_18 (fun q9 => ?_) (fun q9 => ?_)
        · have h := ite_T h q9
          refine sw_aload_n X 0 rfl rfl dX5_copy_27 ?_
          refine sw_getR X sw_cl5 (show sw_kd 0 = 5 from rfl) (k := 1) rfl (by decide) (o1 := 8) rfl wf_X5_14 dX5_copy_28 ?_
          refine sw_iload_n X 1 rfl rfl dX5_copy_31 ?_
          obtain ⟨q10, h⟩ := bnd_E h
          refine sw_iald X (show sw_kd 8 = 8 from rfl) (n := 6) rfl q10 dX5_copy_32 ?_
          refine jn0_E (sw_V p l e 2 s m args below meth c g (sw_A g s.heap.size) (sw_QI below g args s r st1) 6 45 [(0, .ref (g.1 0))] [] st) h (fun h => ?_) (fun k11 J12 h => ?_)
          · refine sw_aload_n X 0 rfl rfl dX5_copy_45 ?_
            refine sw_iconst X (v := 1) (by decide) dX5_copy_46 ?_
            obtain ⟨r14, s15, c13, h⟩ := bd_E h
            refine sw_callVI X (o := 0) (As := (fun g => [.int 1])) sw_cl5 (show sw_kd 0 = 5 from rfl) ws_X5_found (by omega) (c_X5_found F 1 st c13) rfl rfl (Nat.le_of_ble_eq_true rfl) wm_X5_99 dX5_copy_47 ?_
            exact sw_iret X hr hlk dX5_copy_50 h
          · refine sw_if_lt X 45 (by decide) dX5_copy_33 (fun q16 => ?_) (fun q16 => ?_)
            · have h := ite_T h q16
              refine sw_sub [0] rfl ?_
              exact J12  h
            · have h := ite_F h q16
              refine sw_aload_n X 0 rfl rfl dX5_copy_36 ?_
              refine sw_getR X sw_cl5 (show sw_kd 0 = 5 from rfl) (k := 1) rfl (by decide) (o1 := 8) rfl wf_X5_14 dX5_copy_37 ?_
              refine sw_iload_n X 3 rfl rfl dX5_copy_40 ?_
              obtain ⟨q17, h⟩ := bnd_E h
              refine sw_iald X (show sw_kd 8 = 8 from rfl) (n := 6) rfl q17 dX5_copy_41 ?_
              refine sw_if_ge X 51 (by decide) dX5_copy_42 (fun q18 => ?_) (fun q18 => ?_)
              · have h := ite_T h q18
                refine sw_iload_n X 2 rfl rfl dX5_copy_51 ?_
                refine sw_iload X 5 rfl dX5_copy_52 ?_
                refine sw_aload_n X 0 rfl rfl dX5_copy_54 ?_
                refine sw_getR X sw_cl5 (show sw_kd 0 = 5 from rfl) (k := 1) rfl (by decide) (o1 := 8) rfl wf_X5_14 dX5_copy_55 ?_
                refine sw_iload_n X 1 rfl rfl dX5_copy_58 ?_
                obtain ⟨q19, h⟩ := bnd_E h
                refine sw_iald X (show sw_kd 8 = 8 from rfl) (n := 6) rfl q19 dX5_copy_59 ?_
                obtain ⟨r21, c20, h⟩ := bo_E h
                refine sw_callSI X (As := (fun g => [.int a2, .int a5, .int (st.1 8 (a1 : Int32).toNatClampNeg)])) ws_X5_isSpan (by omega) (c_X5_isSpan F a2 a5 (st.1 8 (a1 : Int32).toNatClampNeg) st c20) rfl rfl (Nat.le_of_ble_eq_true rfl) wm_X5_107 dX5_copy_60 ?_
                refine jn0_E (sw_V p l e 2 s m args below meth c g (sw_A g s.heap.size) (sw_QI below g args s r st1) 6 82 [(0, .ref (g.1 0))] [] st) h (fun h => ?_) (fun k22 J23 h => ?_)
                · refine sw_aload_n X 0 rfl rfl dX5_copy_82 ?_
                  refine sw_iconst X (v := 2) (by decide) dX5_copy_83 ?_
                  obtain ⟨r25, s26, c24, h⟩ := bd_E h
                  refine sw_callVI X (o := 0) (As := (fun g => [.int 2])) sw_cl5 (show sw_kd 0 = 5 from rfl) ws_X5_found (by omega) (c_X5_found F 2 st c24) rfl rfl (Nat.le_of_ble_eq_true rfl) wm_X5_99 dX5_copy_84 ?_
                  exact sw_iret X hr hlk dX5_copy_87 h
                · refine sw_if_eq X 82 (by decide) dX5_copy_63 (fun q27 => ?_) (fun q27 => ?_)
                  · have h := ite_T h q27
                    refine sw_sub [0] rfl ?_
                    exact J23  h
                  · have h := ite_F h q27
                    refine sw_iload X 4 rfl dX5_copy_66 ?_
                    refine sw_iload X 5 rfl dX5_copy_68 ?_
                    refine sw_aload_n X 0 rfl rfl dX5_copy_70 ?_
                    refine sw_getR X sw_cl5 (show sw_kd 0 = 5 from rfl) (k := 1) rfl (by decide) (o1 := 8) rfl wf_X5_14 dX5_copy_71 ?_
                    refine sw_iload_n X 3 rfl rfl dX5_copy_74 ?_
                    obtain ⟨q28, h⟩ := bnd_E h
                    refine sw_iald X (show sw_kd 8 = 8 from rfl) (n := 6) rfl q28 dX5_copy_75 ?_
                    obtain ⟨r30, c29, h⟩ := bo_E h
                    refine sw_callSI X (As := (fun g => [.int a4, .int a5, .int (st.1 8 (a3 : Int32).toNatClampNeg)])) ws_X5_isSpan (by omega) (c_X5_isSpan F a4 a5 (st.1 8 (a3 : Int32).toNatClampNeg) st c29) rfl rfl (Nat.le_of_ble_eq_true rfl) wm_X5_107 dX5_copy_76 ?_
                    refine sw_if_ne X 88 (by decide) dX5_copy_79 (fun q31 => ?_) (fun q31 => ?_)
                    · have h := ite_F h q31
                      refine sw_aload_n X 0 rfl rfl dX5_copy_88 ?_
                      refine sw_getR X sw_cl5 (show sw_kd 0 = 5 from rfl) (k := 0) rfl (by decide) (o1 := 1) rfl wf_X5_11 dX5_copy_89 ?_
                      refine sw_iload_n X 1 rfl rfl dX5_copy_92 ?_
                      obtain ⟨q32, h⟩ := bnd_E h
                      refine sw_aaldI X (show sw_kd 1 = 12 from rfl) (n := 6) rfl q32 (a1 := 2 + (a1 : Int32).toNatClampNeg) rfl dX5_copy_93 ?_
                      refine sw_iload_n X 2 rfl rfl dX5_copy_94 ?_
                      refine sw_aload_n X 0 rfl rfl dX5_copy_95 ?_
                      refine sw_getR X sw_cl5 (show sw_kd 0 = 5 from rfl) (k := 0) rfl (by decide) (o1 := 1) rfl wf_X5_11 dX5_copy_96 ?_
                      refine sw_iload_n X 3 rfl rfl dX5_copy_99 ?_
                      obtain ⟨q33, h⟩ := bnd_E h
                      refine sw_aaldI X (show sw_kd 1 = 12 from rfl) (n := 6) rfl q33 (a1 := 2 + (a3 : Int32).toNatClampNeg) rfl dX5_copy_100 ?_
                      refine sw_iload X 4 rfl dX5_copy_101 ?_
                      refine sw_iload X 5 rfl dX5_copy_103 ?_
                      obtain ⟨q35, h⟩ := grd_E h
                      refine sw_copy X (show sw_kd (2 + (a1 : Int32).toNatClampNeg) = 8 from (sw_rk q32)) (n0 := 40) (sw_rn q32) (show sw_kd (2 + (a3 : Int32).toNatClampNeg) = 8 from (sw_rk q33)) (n1 := 40) (sw_rn q33) q35.1 q35.2.1 q35.2.2.1 q35.2.2.2.1 q35.2.2.2.2 wm_X5_111 ws_copy.1 ws_copy.2.1 ws_copy.2.2 (by omega) (Nat.le_of_ble_eq_true rfl) dX5_copy_105 (fun s34 es34 => ?_)
                      have h := nm_E h es34
                      refine sw_iconst X (v := 1) (by decide) dX5_copy_108 ?_
                      exact sw_iret X hr hlk dX5_copy_109 h
                    · have h := ite_T h q31
                      refine sw_sub [0] rfl ?_
                      exact J23  h
              · have h := ite_F h q18
                refine sw_sub [0] rfl ?_
                exact J12  h
        · have h := ite_F h q9
          refine sw_aload_n X 0 rfl rfl dX5_copy_21 ?_
          refine sw_iconst X (v := 5) (by decide) dX5_copy_22 ?_
          obtain ⟨r37, s38, c36, h⟩ := bd_E h
          refine sw_callVI X (o := 0) (As := (fun g => [.int 5])) sw_cl5 (show sw_kd 0 = 5 from rfl) ws_X5_found (by omega) (c_X5_found F 5 st c36) rfl rfl (Nat.le_of_ble_eq_true rfl) wm_X5_99 dX5_copy_23 ?_
          exact sw_iret X hr hlk dX5_copy_26 h
      · have h := ite_T h q8
        refine sw_sub [] rfl ?_
        exact J4  h
theorem dX5_mean_0 : decode cX5_mean 0 = .ok (.iload_n 1, 1) := by decide +kernel
theorem dX5_mean_1 : decode cX5_mean 1 = .ok (.invokestatic 95, 3) := by decide +kernel
theorem dX5_mean_4 : decode cX5_mean 4 = .ok (.ifCond .ne 5, 3) := by decide +kernel
theorem dX5_mean_7 : decode cX5_mean 7 = .ok (.iconst (-1), 1) := by decide +kernel
theorem dX5_mean_8 : decode cX5_mean 8 = .ok (.ireturn, 1) := by decide +kernel
theorem dX5_mean_9 : decode cX5_mean 9 = .ok (.aload_n 0, 1) := by decide +kernel
theorem dX5_mean_10 : decode cX5_mean 10 = .ok (.getfield 14, 3) := by decide +kernel
theorem dX5_mean_13 : decode cX5_mean 13 = .ok (.iload_n 1, 1) := by decide +kernel
theorem dX5_mean_14 : decode cX5_mean 14 = .ok (.iaload, 1) := by decide +kernel
theorem dX5_mean_15 : decode cX5_mean 15 = .ok (.istore_n 2, 1) := by decide +kernel
theorem dX5_mean_16 : decode cX5_mean 16 = .ok (.iload_n 2, 1) := by decide +kernel
theorem dX5_mean_17 : decode cX5_mean 17 = .ok (.ifCond .ge 9, 3) := by decide +kernel
theorem dX5_mean_20 : decode cX5_mean 20 = .ok (.aload_n 0, 1) := by decide +kernel
theorem dX5_mean_21 : decode cX5_mean 21 = .ok (.iconst 1, 1) := by decide +kernel
theorem dX5_mean_22 : decode cX5_mean 22 = .ok (.invokevirtual 99, 3) := by decide +kernel
theorem dX5_mean_25 : decode cX5_mean 25 = .ok (.ireturn, 1) := by decide +kernel
theorem dX5_mean_26 : decode cX5_mean 26 = .ok (.iload_n 2, 1) := by decide +kernel
theorem dX5_mean_27 : decode cX5_mean 27 = .ok (.ifCond .ne 9, 3) := by decide +kernel
theorem dX5_mean_30 : decode cX5_mean 30 = .ok (.aload_n 0, 1) := by decide +kernel
theorem dX5_mean_31 : decode cX5_mean 31 = .ok (.iconst 4, 1) := by decide +kernel
theorem dX5_mean_32 : decode cX5_mean 32 = .ok (.invokevirtual 99, 3) := by decide +kernel
theorem dX5_mean_35 : decode cX5_mean 35 = .ok (.ireturn, 1) := by decide +kernel
theorem dX5_mean_36 : decode cX5_mean 36 = .ok (.lconst 0, 1) := by decide +kernel
theorem dX5_mean_37 : decode cX5_mean 37 = .ok (.lstore_n 3, 1) := by decide +kernel
theorem dX5_mean_38 : decode cX5_mean 38 = .ok (.iconst 0, 1) := by decide +kernel
theorem dX5_mean_39 : decode cX5_mean 39 = .ok (.istore 5, 2) := by decide +kernel
theorem dX5_mean_41 : decode cX5_mean 41 = .ok (.iload 5, 2) := by decide +kernel
theorem dX5_mean_43 : decode cX5_mean 43 = .ok (.iload_n 2, 1) := by decide +kernel
theorem dX5_mean_44 : decode cX5_mean 44 = .ok (.if_icmp .ge 22, 3) := by decide +kernel
theorem dX5_mean_47 : decode cX5_mean 47 = .ok (.lload_n 3, 1) := by decide +kernel
theorem dX5_mean_48 : decode cX5_mean 48 = .ok (.aload_n 0, 1) := by decide +kernel
theorem dX5_mean_49 : decode cX5_mean 49 = .ok (.getfield 11, 3) := by decide +kernel
theorem dX5_mean_52 : decode cX5_mean 52 = .ok (.iload_n 1, 1) := by decide +kernel
theorem dX5_mean_53 : decode cX5_mean 53 = .ok (.aaload, 1) := by decide +kernel
theorem dX5_mean_54 : decode cX5_mean 54 = .ok (.iload 5, 2) := by decide +kernel
theorem dX5_mean_56 : decode cX5_mean 56 = .ok (.iaload, 1) := by decide +kernel
theorem dX5_mean_57 : decode cX5_mean 57 = .ok (.i2l, 1) := by decide +kernel
theorem dX5_mean_58 : decode cX5_mean 58 = .ok (.ladd, 1) := by decide +kernel
theorem dX5_mean_59 : decode cX5_mean 59 = .ok (.lstore_n 3, 1) := by decide +kernel
theorem dX5_mean_60 : decode cX5_mean 60 = .ok (.iinc 5 1, 3) := by decide +kernel
theorem dX5_mean_63 : decode cX5_mean 63 = .ok (.goto (-22), 3) := by decide +kernel
theorem dX5_mean_66 : decode cX5_mean 66 = .ok (.aload_n 0, 1) := by decide +kernel
theorem dX5_mean_67 : decode cX5_mean 67 = .ok (.lload_n 3, 1) := by decide +kernel
theorem dX5_mean_68 : decode cX5_mean 68 = .ok (.iload_n 2, 1) := by decide +kernel
theorem dX5_mean_69 : decode cX5_mean 69 = .ok (.i2l, 1) := by decide +kernel
theorem dX5_mean_70 : decode cX5_mean 70 = .ok (.ldiv, 1) := by decide +kernel
theorem dX5_mean_71 : decode cX5_mean 71 = .ok (.l2i, 1) := by decide +kernel
theorem dX5_mean_72 : decode cX5_mean 72 = .ok (.putfield 79, 3) := by decide +kernel
theorem dX5_mean_75 : decode cX5_mean 75 = .ok (.iconst 1, 1) := by decide +kernel
theorem dX5_mean_76 : decode cX5_mean 76 = .ok (.ireturn, 1) := by decide +kernel
def j_X5_mean (F : Nat) (a1 : Int32) (st : sw_St) : Option (Int32 × sw_St) :=
bo (j_X5_isRow F a1 st) (fun (r2 : Int32) =>
(if r2 = 0 then (
 some (((-1) : Int32), st))
else (
 bnd a1 6 (
 nm (st.1 8 (a1 : Int32).toNatClampNeg) (fun (x5 : Int32) =>
 (if 0 ≤ x5 then (
  (if x5 = 0 then (
   bd (j_X5_found F 4 st) (fun (r20 : Int32) (s21 : sw_St) =>
   some ((r20 : Int32), s21)))
  else (
   lz2 (fun f10 (x8 : Int64) (x9 : Int32) =>
    (if x5 ≤ x9 then (
     grd (¬ ((x5 : Int32).toInt64) = 0) (
     nm (sw_setC st 0 14 (((x8 / ((x5 : Int32).toInt64)) : Int64).toInt32)) (fun (s14 : sw_St) =>
     some ((1 : Int32), s14))))
    else (
     bnd a1 6 (
     bnd x9 40 (
     nm (x8 + (((st.1 (2 + (a1 : Int32).toNatClampNeg) (x9 : Int32).toNatClampNeg) : Int32).toInt64)) (fun (x17 : Int64) =>
     nm (x9 + 1) (fun (x18 : Int32) =>
     f10 x17 x18))))))) F 0 0)))
 else (
  bd (j_X5_found F 1 st) (fun (r23 : Int32) (s24 : sw_St) =>
  some ((r23 : Int32), s24)))))))))
set_option maxHeartbeats 4000000 in
set_option maxRecDepth 100000 in
theorem c_X5_mean (F : Nat) (a1 : Int32) (st : sw_St) {r : Int32} {st1 : sw_St} (h : j_X5_mean F a1 st = some (r, st1)) : sw_CI yX5_mean (.code yX5_mean cX5_mean 6 (some .int)) 2 (fun g => [.ref (g.1 0), .int a1]) st r st1 := by
  refine sw_entI RX5 (fun g => [(0, .ref (g.1 0)), (1, .int a1)]) (by decide) rfl (fun _ => Nat.le_of_ble_eq_true rfl) (fun _ => rfl) ?_
  intro p l e s m args below meth c g X hr hlk
  unfold j_X5_mean at h
  refine sw_iload_n X 1 rfl rfl dX5_mean_0 ?_
  obtain ⟨r2, c1, h⟩ := bo_E h
  refine sw_callSI X (As := (fun g => [.int a1])) ws_X5_isRow (by omega) (c_X5_isRow F a1 st c1) rfl rfl (Nat.le_of_ble_eq_true rfl) wm_X5_95 dX5_mean_1 ?_
  refine sw_if_ne X 9 (by decide) dX5_mean_4 (fun q3 => ?_) (fun q3 => ?_)
  · have h := ite_F h q3
    refine sw_aload_n X 0 rfl rfl dX5_mean_9 ?_
    refine sw_getR X sw_cl5 (show sw_kd 0 = 5 from rfl) (k := 1) rfl (by decide) (o1 := 8) rfl wf_X5_14 dX5_mean_10 ?_
    refine sw_iload_n X 1 rfl rfl dX5_mean_13 ?_
    obtain ⟨q4, h⟩ := bnd_E h
    refine sw_iald X (show sw_kd 8 = 8 from rfl) (n := 6) rfl q4 dX5_mean_14 ?_
    refine sw_topi (fun x5 ex5 => ?_)
    have h := nm_E h ex5
    refine sw_istore_n X [(2, .int x5), (0, .ref (g.1 0)), (1, .int a1)] rfl (by decide) rfl dX5_mean_15 ?_
    refine sw_iload_n X 0 rfl rfl dX5_mean_16 ?_
    refine sw_if_ge X 26 (by decide) dX5_mean_17 (fun q6 => ?_) (fun q6 => ?_)
    · have h := ite_T h q6
      refine sw_iload_n X 0 rfl rfl dX5_mean_26 ?_
      refine sw_if_ne X 36 (by decide) dX5_mean_27 (fun q7 => ?_) (fun q7 => ?_)
      · have h := ite_F h q7
        refine sw_lconst X (v := 0) (by decide) dX5_mean_36 ?_
        refine sw_lstore_n X [(3, .long 0), (2, .int x5), (0, .ref (g.1 0)), (1, .int a1)] rfl (by decide) rfl dX5_mean_37 ?_
        refine sw_iconst X (v := 0) (by decide) dX5_mean_38 ?_
        refine sw_istore X [(5, .int 0), (3, .long 0), (2, .int x5), (0, .ref (g.1 0)), (1, .int a1)] (by decide) rfl dX5_mean_39 ?_
        refine sw_sub [3, 4, 2, 1, 0] rfl ?_
        refine lz2_E (fun (x8 : Int64) (x9 : Int32) => sw_V p l e 2 s m args below meth c g (sw_A g s.heap.size) (sw_QI below g args s r st1) 6 41 [(0, .ref (g.1 0)), (1, .int a1), (2, .int x5), (3, .long x8), (5, .int x9)] [] st) h (fun f10 ih11 x8 x9 h => ?_)
        refine sw_iload X 4 rfl dX5_mean_41 ?_
        refine sw_iload_n X 2 rfl rfl dX5_mean_43 ?_
        refine sw_icmp_ge X 66 (by decide) dX5_mean_44 (fun q12 => ?_) (fun q12 => ?_)
        · have h := ite_T h q12
          refine sw_aload_n X 0 rfl rfl dX5_mean_66 ?_
          refine sw_lload_n X 3 rfl rfl dX5_mean_67 ?_
          refine sw_iload_n X 2 rfl rfl dX5_mean_68 ?_
          refine sw_i2l X dX5_mean_69 ?_
          obtain ⟨q13, h⟩ := grd_E h
          refine sw_ldiv X q13 dX5_mean_70 ?_
          refine sw_l2i X dX5_mean_71 ?_
          refine sw_putI X sw_cl5 (show sw_kd 0 = 5 from rfl) (k := 14) rfl (by decide) rfl rfl wf_X5_79 dX5_mean_72 (fun s14 es14 => ?_)
          have h := nm_E h es14
          refine sw_iconst X (v := 1) (by decide) dX5_mean_75 ?_
          exact sw_iret X hr hlk dX5_mean_76 h
        · have h := ite_F h q12
          refine sw_lload_n X 3 rfl rfl dX5_mean_47 ?_
          refine sw_aload_n X 0 rfl rfl dX5_mean_48 ?_
          refine sw_getR X sw_cl5 (show sw_kd 0 = 5 from rfl) (k := 0) rfl (by decide) (o1 := 1) rfl wf_X5_11 dX5_mean_49 ?_
          refine sw_iload_n X 1 rfl rfl dX5_mean_52 ?_
          obtain ⟨q15, h⟩ := bnd_E h
          refine sw_aaldI X (show sw_kd 1 = 12 from rfl) (n := 6) rfl q15 (a1 := 2 + (a1 : Int32).toNatClampNeg) rfl dX5_mean_53 ?_
          refine sw_iload X 4 rfl dX5_mean_54 ?_
          obtain ⟨q16, h⟩ := bnd_E h
          refine sw_iald X (show sw_kd (2 + (a1 : Int32).toNatClampNeg) = 8 from (sw_rk q15)) (n := 40) (sw_rn q15) q16 dX5_mean_56 ?_
          refine sw_i2l X dX5_mean_57 ?_
          refine sw_ladd X dX5_mean_58 ?_
          refine sw_topl (fun x17 ex17 => ?_)
          have h := nm_E h ex17
          refine sw_lstore_n X [(3, .long x17), (0, .ref (g.1 0)), (1, .int a1), (2, .int x5), (5, .int x9)] rfl (by decide) rfl dX5_mean_59 ?_
          obtain ⟨x18, ex18⟩ : ∃ y : Int32, y = x9 + 1 := ⟨_, rfl⟩
          have h := nm_E h ex18
          refine sw_iinc X 4 x18 [(5, .int x18), (3, .long x17), (0, .ref (g.1 0)), (1, .int a1), (2, .int x5)] rfl (by rw [ex18]; rfl) (by decide) rfl dX5_mean_60 ?_
          refine sw_goto X 41 (by decide) dX5_mean_63 ?_
          refine sw_sub [2, 3, 4, 1, 0] rfl ?_
          exact ih11 _ _ h
      · have h := ite_T h q7
        refine sw_aload_n X 1 rfl rfl dX5_mean_30 ?_
        refine sw_iconst X (v := 4) (by decide) dX5_mean_31 ?_
        obtain ⟨r20, s21, c19, h⟩ := bd_E h
        refine sw_callVI X (o := 0) (As := (fun g => [.int 4])) sw_cl5 (show sw_kd 0 = 5 from rfl) ws_X5_found (by omega) (c_X5_found F 4 st c19) rfl rfl (Nat.le_of_ble_eq_true rfl) wm_X5_99 dX5_mean_32 ?_
        exact sw_iret X hr hlk dX5_mean_35 h
    · have h := ite_F h q6
      refine sw_aload_n X 1 rfl rfl dX5_mean_20 ?_
      refine sw_iconst X (v := 1) (by decide) dX5_mean_21 ?_
      obtain ⟨r23, s24, c22, h⟩ := bd_E h
      refine sw_callVI X (o := 0) (As := (fun g => [.int 1])) sw_cl5 (show sw_kd 0 = 5 from rfl) ws_X5_found (by omega) (c_X5_found F 1 st c22) rfl rfl (Nat.le_of_ble_eq_true rfl) wm_X5_99 dX5_mean_22 ?_
      exact sw_iret X hr hlk dX5_mean_25 h
  · have h := ite_T h q3
    refine sw_iconst X (v := (-1)) (by decide) dX5_mean_7 ?_
    exact sw_iret X hr hlk dX5_mean_8 h
theorem dJ7_fill_031fb_0 : decode cJ7_fill_031fb 0 = .ok (.iconst 0, 1) := by decide +kernel
theorem dJ7_fill_031fb_1 : decode cJ7_fill_031fb 1 = .ok (.istore_n 2, 1) := by decide +kernel
theorem dJ7_fill_031fb_2 : decode cJ7_fill_031fb 2 = .ok (.aload_n 0, 1) := by decide +kernel
theorem dJ7_fill_031fb_3 : decode cJ7_fill_031fb 3 = .ok (.arraylength, 1) := by decide +kernel
theorem dJ7_fill_031fb_4 : decode cJ7_fill_031fb 4 = .ok (.istore_n 3, 1) := by decide +kernel
theorem dJ7_fill_031fb_5 : decode cJ7_fill_031fb 5 = .ok (.iload_n 2, 1) := by decide +kernel
theorem dJ7_fill_031fb_6 : decode cJ7_fill_031fb 6 = .ok (.iload_n 3, 1) := by decide +kernel
theorem dJ7_fill_031fb_7 : decode cJ7_fill_031fb 7 = .ok (.if_icmp .ge 13, 3) := by decide +kernel
theorem dJ7_fill_031fb_10 : decode cJ7_fill_031fb 10 = .ok (.aload_n 0, 1) := by decide +kernel
theorem dJ7_fill_031fb_11 : decode cJ7_fill_031fb 11 = .ok (.iload_n 2, 1) := by decide +kernel
theorem dJ7_fill_031fb_12 : decode cJ7_fill_031fb 12 = .ok (.iload_n 1, 1) := by decide +kernel
theorem dJ7_fill_031fb_13 : decode cJ7_fill_031fb 13 = .ok (.bastore, 1) := by decide +kernel
theorem dJ7_fill_031fb_14 : decode cJ7_fill_031fb 14 = .ok (.iinc 2 1, 3) := by decide +kernel
theorem dJ7_fill_031fb_17 : decode cJ7_fill_031fb 17 = .ok (.goto (-12), 3) := by decide +kernel
theorem dJ7_fill_031fb_20 : decode cJ7_fill_031fb 20 = .ok (.return_, 1) := by decide +kernel
def j_J7_fill_031fb (F : Nat) (a : Nat) (a2 : Int32) (st : sw_St) : Option (Unit × sw_St) :=
nm (nI (sw_ln a)) (fun (x1 : Int32) =>
lz2 (fun f4 (x2 : Int32) (s3 : sw_St) =>
 (if x1 ≤ x2 then (
  some ((), s3))
 else (
  bnd x2 (sw_ln a) (
  nm (sw_setC s3 a (x2 : Int32).toNatClampNeg (vp_nar .byte a2)) (fun (s8 : sw_St) =>
  nm (x2 + 1) (fun (x9 : Int32) =>
  f4 x9 s8)))))) F 0 st)
set_option maxHeartbeats 4000000 in
set_option maxRecDepth 100000 in
theorem c_J7_fill_031fb (F : Nat) {a : Nat} (ha : sw_kd a = 7) (a2 : Int32) (st : sw_St) {st1 : sw_St} (h : j_J7_fill_031fb F a a2 st = some ((), st1)) : sw_CV yJ7_fill_031fb (.code yJ7_fill_031fb cJ7_fill_031fb 4 none) 1 (fun g => [.ref (g.1 a), .int a2]) st  st1 := by
  refine sw_entV RJ7 (fun g => [(0, .ref (g.1 a)), (1, .int a2)]) (by decide) rfl (fun _ => Nat.le_of_ble_eq_true rfl) (fun _ => rfl) ?_
  intro p l e s m args below meth c g X hr hlk
  unfold j_J7_fill_031fb at h
  refine sw_iconst X (v := 0) (by decide) dJ7_fill_031fb_0 ?_
  refine sw_istore_n X [(2, .int 0), (0, .ref (g.1 a)), (1, .int a2)] rfl (by decide) rfl dJ7_fill_031fb_1 ?_
  refine sw_aload_n X 1 rfl rfl dJ7_fill_031fb_2 ?_
  refine sw_alenB X (show sw_kd a = 7 from ha) dJ7_fill_031fb_3 ?_
  refine sw_topi (fun x1 ex1 => ?_)
  have h := nm_E h ex1
  refine sw_istore_n X [(3, .int x1), (2, .int 0), (0, .ref (g.1 a)), (1, .int a2)] rfl (by decide) rfl dJ7_fill_031fb_4 ?_
  refine sw_sub [2, 3, 1, 0] rfl ?_
  refine lz2_E (fun (x2 : Int32) (s3 : sw_St) => sw_V p l e 1 s m args below meth c g (sw_A g s.heap.size) (sw_QV below g args s  st1) 4 5 [(0, .ref (g.1 a)), (1, .int a2), (2, .int x2), (3, .int x1)] [] s3) h (fun f4 ih5 x2 s3 h => ?_)
  refine sw_iload_n X 2 rfl rfl dJ7_fill_031fb_5 ?_
  refine sw_iload_n X 3 rfl rfl dJ7_fill_031fb_6 ?_
  refine sw_icmp_ge X 20 (by decide) dJ7_fill_031fb_7 (fun q6 => ?_) (fun q6 => ?_)
  · have h := ite_T h q6
    exact sw_vret X hr hlk dJ7_fill_031fb_20 h
  · have h := ite_F h q6
    refine sw_aload_n X 0 rfl rfl dJ7_fill_031fb_10 ?_
    refine sw_iload_n X 2 rfl rfl dJ7_fill_031fb_11 ?_
    refine sw_iload_n X 1 rfl rfl dJ7_fill_031fb_12 ?_
    obtain ⟨q7, h⟩ := bnd_E h
    refine sw_bast X (show sw_kd a = 7 from ha) (n := (sw_ln a)) rfl q7 dJ7_fill_031fb_13 (fun s8 es8 => ?_)
    have h := nm_E h es8
    obtain ⟨x9, ex9⟩ : ∃ y : Int32, y = x2 + 1 := ⟨_, rfl⟩
    have h := nm_E h ex9
    refine sw_iinc X 2 x9 [(2, .int x9), (0, .ref (g.1 a)), (1, .int a2), (3, .int x1)] rfl (by rw [ex9]; rfl) (by decide) rfl dJ7_fill_031fb_14 ?_
    refine sw_goto X 5 (by decide) dJ7_fill_031fb_17 ?_
    refine sw_sub [1, 2, 0, 3] rfl ?_
    exact ih5 _ _ h
theorem dX5_isText_0 : decode cX5_isText 0 = .ok (.iload_n 0, 1) := by decide +kernel
theorem dX5_isText_1 : decode cX5_isText 1 = .ok (.ifCond .lt 12, 3) := by decide +kernel
theorem dX5_isText_4 : decode cX5_isText 4 = .ok (.iload_n 0, 1) := by decide +kernel
theorem dX5_isText_5 : decode cX5_isText 5 = .ok (.iconst 4, 1) := by decide +kernel
theorem dX5_isText_6 : decode cX5_isText 6 = .ok (.if_icmp .ge 7, 3) := by decide +kernel
theorem dX5_isText_9 : decode cX5_isText 9 = .ok (.iconst 1, 1) := by decide +kernel
theorem dX5_isText_10 : decode cX5_isText 10 = .ok (.goto 4, 3) := by decide +kernel
theorem dX5_isText_13 : decode cX5_isText 13 = .ok (.iconst 0, 1) := by decide +kernel
theorem dX5_isText_14 : decode cX5_isText 14 = .ok (.ireturn, 1) := by decide +kernel
def j_X5_isText (F : Nat) (a1 : Int32) (st : sw_St) : Option Int32 :=
jn (fun (x1 : Int32) => 
  grd (x1 = 0 ∨ x1 = 1) (some (x1 : Int32))) (fun k2 =>
 jn (
   k2 0) (fun k5 =>
  (if a1 < 0 then (
   k5)
  else (
   (if 4 ≤ a1 then (
    k5)
   else (
    k2 1))))))
set_option maxHeartbeats 4000000 in
set_option maxRecDepth 100000 in
theorem c_X5_isText (F : Nat) (a1 : Int32) (st : sw_St) {r : Int32} (h : j_X5_isText F a1 st = some r) : sw_CI yX5_isText (.code yX5_isText cX5_isText 1 (some .boolean)) 1 (fun g => [.int a1]) st r st := by
  refine sw_entI RX5 (fun g => [(0, .int a1)]) (by decide) rfl (fun _ => Nat.le_of_ble_eq_true rfl) (fun _ => rfl) ?_
  intro p l e s m args below meth c g X hr hlk
  unfold j_X5_isText at h
  refine sw_iload_n X 0 rfl rfl dX5_isText_0 ?_
  refine jn1_E (fun (x1 : Int32) => sw_V p l e 1 s m args below meth c g (sw_A g s.heap.size) (sw_QI below g args s r st) 1 14 [] [.int x1] st) h (fun x1 h => ?_) (fun k2 J3 h => ?_)
  · obtain ⟨q4, h⟩ := grd_E h
    exact sw_zret X hr hlk q4 dX5_isText_14 (by cases h; rfl)
  · refine jn0_E (sw_V p l e 1 s m args below meth c g (sw_A g s.heap.size) (sw_QI below g args s r st) 1 13 [] [] st) h (fun h => ?_) (fun k5 J6 h => ?_)
    · refine sw_iconst X (v := 0) (by decide) dX5_isText_13 ?_
      exact J3 _ h
    · refine sw_if_lt X 13 (by decide) dX5_isText_1 (fun q7 => ?_) (fun q7 => ?_)
      · have h := ite_T h q7
        refine sw_sub [] rfl ?_
        exact J6  h
      · have h := ite_F h q7
        refine sw_iload_n X 0 rfl rfl dX5_isText_4 ?_
        refine sw_iconst X (v := 4) (by decide) dX5_isText_5 ?_
        refine sw_icmp_ge X 13 (by decide) dX5_isText_6 (fun q8 => ?_) (fun q8 => ?_)
        · have h := ite_T h q8
          refine sw_sub [] rfl ?_
          exact J6  h
        · have h := ite_F h q8
          refine sw_iconst X (v := 1) (by decide) dX5_isText_9 ?_
          refine sw_goto X 14 (by decide) dX5_isText_10 ?_
          refine sw_sub [] rfl ?_
          exact J3 _ h
theorem dX5_text_0 : decode cX5_text 0 = .ok (.iload_n 1, 1) := by decide +kernel
theorem dX5_text_1 : decode cX5_text 1 = .ok (.invokestatic 117, 3) := by decide +kernel
theorem dX5_text_4 : decode cX5_text 4 = .ok (.ifCond .eq 9, 3) := by decide +kernel
theorem dX5_text_7 : decode cX5_text 7 = .ok (.iload_n 2, 1) := by decide +kernel
theorem dX5_text_8 : decode cX5_text 8 = .ok (.bipush 60, 2) := by decide +kernel
theorem dX5_text_10 : decode cX5_text 10 = .ok (.if_icmp .le 5, 3) := by decide +kernel
theorem dX5_text_13 : decode cX5_text 13 = .ok (.iconst (-1), 1) := by decide +kernel
theorem dX5_text_14 : decode cX5_text 14 = .ok (.ireturn, 1) := by decide +kernel
theorem dX5_text_15 : decode cX5_text 15 = .ok (.iload_n 2, 1) := by decide +kernel
theorem dX5_text_16 : decode cX5_text 16 = .ok (.ifCond .ge 9, 3) := by decide +kernel
theorem dX5_text_19 : decode cX5_text 19 = .ok (.aload_n 0, 1) := by decide +kernel
theorem dX5_text_20 : decode cX5_text 20 = .ok (.iconst 5, 1) := by decide +kernel
theorem dX5_text_21 : decode cX5_text 21 = .ok (.invokevirtual 99, 3) := by decide +kernel
theorem dX5_text_24 : decode cX5_text 24 = .ok (.ireturn, 1) := by decide +kernel
theorem dX5_text_25 : decode cX5_text 25 = .ok (.aload_n 0, 1) := by decide +kernel
theorem dX5_text_26 : decode cX5_text 26 = .ok (.getfield 23, 3) := by decide +kernel
theorem dX5_text_29 : decode cX5_text 29 = .ok (.iload_n 1, 1) := by decide +kernel
theorem dX5_text_30 : decode cX5_text 30 = .ok (.iload_n 2, 1) := by decide +kernel
theorem dX5_text_31 : decode cX5_text 31 = .ok (.iastore, 1) := by decide +kernel
theorem dX5_text_32 : decode cX5_text 32 = .ok (.aload_n 0, 1) := by decide +kernel
theorem dX5_text_33 : decode cX5_text 33 = .ok (.getfield 20, 3) := by decide +kernel
theorem dX5_text_36 : decode cX5_text 36 = .ok (.iload_n 1, 1) := by decide +kernel
theorem dX5_text_37 : decode cX5_text 37 = .ok (.aaload, 1) := by decide +kernel
theorem dX5_text_38 : decode cX5_text 38 = .ok (.bipush 32, 2) := by decide +kernel
theorem dX5_text_40 : decode cX5_text 40 = .ok (.invokestatic 120, 3) := by decide +kernel
theorem dX5_text_43 : decode cX5_text 43 = .ok (.iload_n 2, 1) := by decide +kernel
theorem dX5_text_44 : decode cX5_text 44 = .ok (.ireturn, 1) := by decide +kernel
def j_X5_text (F : Nat) (a1 : Int32) (a2 : Int32) (st : sw_St) : Option (Int32 × sw_St) :=
bo (j_X5_isText F a1 st) (fun (r2 : Int32) =>
jn (
  some (((-1) : Int32), st)) (fun k3 =>
 (if r2 = 0 then (
  k3)
 else (
  (if a2 ≤ 60 then (
   (if 0 ≤ a2 then (
    bnd a1 4 (
    nm (sw_setC st 14 (a1 : Int32).toNatClampNeg a2) (fun (s9 : sw_St) =>
    bnd a1 4 (
    bd (j_J7_fill_031fb F (10 + (a1 : Int32).toNatClampNeg) 32 s9) (fun (_ : Unit) (s12 : sw_St) =>
    some ((a2 : Int32), s12))))))
   else (
    bd (j_X5_found F 5 st) (fun (r15 : Int32) (s16 : sw_St) =>
    some ((r15 : Int32), s16)))))
  else (
   k3))))))
set_option maxHeartbeats 4000000 in
set_option maxRecDepth 100000 in
theorem c_X5_text (F : Nat) (a1 : Int32) (a2 : Int32) (st : sw_St) {r : Int32} {st1 : sw_St} (h : j_X5_text F a1 a2 st = some (r, st1)) : sw_CI yX5_text (.code yX5_text cX5_text 3 (some .int)) 2 (fun g => [.ref (g.1 0), .int a1, .int a2]) st r st1 := by
  refine sw_entI RX5 (fun g => [(0, .ref (g.1 0)), (1, .int a1), (2, .int a2)]) (by decide) rfl (fun _ => Nat.le_of_ble_eq_true rfl) (fun _ => rfl) ?_
  intro p l e s m args below meth c g X hr hlk
  unfold j_X5_text at h
  refine sw_iload_n X 1 rfl rfl dX5_text_0 ?_
  obtain ⟨r2, c1, h⟩ := bo_E h
  refine sw_callSI X (As := (fun g => [.int a1])) ws_X5_isText (by omega) (c_X5_isText F a1 st c1) rfl rfl (Nat.le_of_ble_eq_true rfl) wm_X5_117 dX5_text_1 ?_
  refine jn0_E (sw_V p l e 2 s m args below meth c g (sw_A g s.heap.size) (sw_QI below g args s r st1) 3 13 [] [] st) h (fun h => ?_) (fun k3 J4 h => ?_)
  · refine sw_iconst X (v := (-1)) (by decide) dX5_text_13 ?_
    exact sw_iret X hr hlk dX5_text_14 h
  · refine sw_if_eq X 13 (by decide) dX5_text_4 (fun q5 => ?_) (fun q5 => ?_)
    · have h := ite_T h q5
      refine sw_sub [] rfl ?_
      exact J4  h
    · have h := ite_F h q5
      refine sw_iload_n X 2 rfl rfl dX5_text_7 ?_
      refine sw_bipush X (v := 60) (by decide) dX5_text_8 ?_
      refine sw_icmp_le X 15 (by decide) dX5_text_10 (fun q6 => ?_) (fun q6 => ?_)
      · have h := ite_T h q6
        refine sw_iload_n X 2 rfl rfl dX5_text_15 ?_
        refine sw_if_ge X 25 (by decide) dX5_text_16 (fun q7 => ?_) (fun q7 => ?_)
        · have h := ite_T h q7
          refine sw_aload_n X 0 rfl rfl dX5_text_25 ?_
          refine sw_getR X sw_cl5 (show sw_kd 0 = 5 from rfl) (k := 3) rfl (by decide) (o1 := 14) rfl wf_X5_23 dX5_text_26 ?_
          refine sw_iload_n X 1 rfl rfl dX5_text_29 ?_
          refine sw_iload_n X 2 rfl rfl dX5_text_30 ?_
          obtain ⟨q8, h⟩ := bnd_E h
          refine sw_iast X (show sw_kd 14 = 8 from rfl) (n := 4) rfl q8 dX5_text_31 (fun s9 es9 => ?_)
          have h := nm_E h es9
          refine sw_aload_n X 0 rfl rfl dX5_text_32 ?_
          refine sw_getR X sw_cl5 (show sw_kd 0 = 5 from rfl) (k := 2) rfl (by decide) (o1 := 9) rfl wf_X5_20 dX5_text_33 ?_
          refine sw_iload_n X 1 rfl rfl dX5_text_36 ?_
          obtain ⟨q10, h⟩ := bnd_E h
          refine sw_aaldB X (show sw_kd 9 = 11 from rfl) (n := 4) rfl q10 (a1 := 10 + (a1 : Int32).toNatClampNeg) rfl dX5_text_37 ?_
          refine sw_bipush X (v := 32) (by decide) dX5_text_38 ?_
          obtain ⟨u13, s12, c11, h⟩ := bd_E h
          refine sw_callSV X (As := (fun g => [.ref (g.1 (10 + (a1 : Int32).toNatClampNeg)), .int 32])) ws_J7_fill_031fb (by omega) (c_J7_fill_031fb F (show sw_kd (10 + (a1 : Int32).toNatClampNeg) = 7 from (sw_xk q10)) 32 s9 c11) rfl rfl (Nat.le_of_ble_eq_true rfl) wm_X5_120 dX5_text_40 ?_
          refine sw_iload_n X 2 rfl rfl dX5_text_43 ?_
          exact sw_iret X hr hlk dX5_text_44 h
        · have h := ite_F h q7
          refine sw_aload_n X 0 rfl rfl dX5_text_19 ?_
          refine sw_iconst X (v := 5) (by decide) dX5_text_20 ?_
          obtain ⟨r15, s16, c14, h⟩ := bd_E h
          refine sw_callVI X (o := 0) (As := (fun g => [.int 5])) sw_cl5 (show sw_kd 0 = 5 from rfl) ws_X5_found (by omega) (c_X5_found F 5 st c14) rfl rfl (Nat.le_of_ble_eq_true rfl) wm_X5_99 dX5_text_21 ?_
          exact sw_iret X hr hlk dX5_text_24 h
      · have h := ite_F h q6
        refine sw_sub [] rfl ?_
        exact J4  h
theorem dX5_put_0 : decode cX5_put 0 = .ok (.iload_n 1, 1) := by decide +kernel
theorem dX5_put_1 : decode cX5_put 1 = .ok (.invokestatic 117, 3) := by decide +kernel
theorem dX5_put_4 : decode cX5_put 4 = .ok (.ifCond .ne 5, 3) := by decide +kernel
theorem dX5_put_7 : decode cX5_put 7 = .ok (.iconst (-1), 1) := by decide +kernel
theorem dX5_put_8 : decode cX5_put 8 = .ok (.ireturn, 1) := by decide +kernel
theorem dX5_put_9 : decode cX5_put 9 = .ok (.aload_n 0, 1) := by decide +kernel
theorem dX5_put_10 : decode cX5_put 10 = .ok (.getfield 23, 3) := by decide +kernel
theorem dX5_put_13 : decode cX5_put 13 = .ok (.iload_n 1, 1) := by decide +kernel
theorem dX5_put_14 : decode cX5_put 14 = .ok (.iaload, 1) := by decide +kernel
theorem dX5_put_15 : decode cX5_put 15 = .ok (.ifCond .ge 9, 3) := by decide +kernel
theorem dX5_put_18 : decode cX5_put 18 = .ok (.aload_n 0, 1) := by decide +kernel
theorem dX5_put_19 : decode cX5_put 19 = .ok (.iconst 1, 1) := by decide +kernel
theorem dX5_put_20 : decode cX5_put 20 = .ok (.invokevirtual 99, 3) := by decide +kernel
theorem dX5_put_23 : decode cX5_put 23 = .ok (.ireturn, 1) := by decide +kernel
theorem dX5_put_24 : decode cX5_put 24 = .ok (.iload_n 2, 1) := by decide +kernel
theorem dX5_put_25 : decode cX5_put 25 = .ok (.ifCond .lt 13, 3) := by decide +kernel
theorem dX5_put_28 : decode cX5_put 28 = .ok (.iload_n 2, 1) := by decide +kernel
theorem dX5_put_29 : decode cX5_put 29 = .ok (.aload_n 0, 1) := by decide +kernel
theorem dX5_put_30 : decode cX5_put 30 = .ok (.getfield 23, 3) := by decide +kernel
theorem dX5_put_33 : decode cX5_put 33 = .ok (.iload_n 1, 1) := by decide +kernel
theorem dX5_put_34 : decode cX5_put 34 = .ok (.iaload, 1) := by decide +kernel
theorem dX5_put_35 : decode cX5_put 35 = .ok (.if_icmp .lt 9, 3) := by decide +kernel
theorem dX5_put_38 : decode cX5_put 38 = .ok (.aload_n 0, 1) := by decide +kernel
theorem dX5_put_39 : decode cX5_put 39 = .ok (.iconst 2, 1) := by decide +kernel
theorem dX5_put_40 : decode cX5_put 40 = .ok (.invokevirtual 99, 3) := by decide +kernel
theorem dX5_put_43 : decode cX5_put 43 = .ok (.ireturn, 1) := by decide +kernel
theorem dX5_put_44 : decode cX5_put 44 = .ok (.aload_n 0, 1) := by decide +kernel
theorem dX5_put_45 : decode cX5_put 45 = .ok (.getfield 20, 3) := by decide +kernel
theorem dX5_put_48 : decode cX5_put 48 = .ok (.iload_n 1, 1) := by decide +kernel
theorem dX5_put_49 : decode cX5_put 49 = .ok (.aaload, 1) := by decide +kernel
theorem dX5_put_50 : decode cX5_put 50 = .ok (.iload_n 2, 1) := by decide +kernel
theorem dX5_put_51 : decode cX5_put 51 = .ok (.baload, 1) := by decide +kernel
theorem dX5_put_52 : decode cX5_put 52 = .ok (.istore 4, 2) := by decide +kernel
theorem dX5_put_54 : decode cX5_put 54 = .ok (.aload_n 0, 1) := by decide +kernel
theorem dX5_put_55 : decode cX5_put 55 = .ok (.getfield 20, 3) := by decide +kernel
theorem dX5_put_58 : decode cX5_put 58 = .ok (.iload_n 1, 1) := by decide +kernel
theorem dX5_put_59 : decode cX5_put 59 = .ok (.aaload, 1) := by decide +kernel
theorem dX5_put_60 : decode cX5_put 60 = .ok (.iload_n 2, 1) := by decide +kernel
theorem dX5_put_61 : decode cX5_put 61 = .ok (.iload_n 3, 1) := by decide +kernel
theorem dX5_put_62 : decode cX5_put 62 = .ok (.i2b, 1) := by decide +kernel
theorem dX5_put_63 : decode cX5_put 63 = .ok (.bastore, 1) := by decide +kernel
theorem dX5_put_64 : decode cX5_put 64 = .ok (.iload 4, 2) := by decide +kernel
theorem dX5_put_66 : decode cX5_put 66 = .ok (.sipush 1000, 3) := by decide +kernel
theorem dX5_put_69 : decode cX5_put 69 = .ok (.iadd, 1) := by decide +kernel
theorem dX5_put_70 : decode cX5_put 70 = .ok (.ireturn, 1) := by decide +kernel
def j_X5_put (F : Nat) (a1 : Int32) (a2 : Int32) (a3 : Int32) (st : sw_St) : Option (Int32 × sw_St) :=
bo (j_X5_isText F a1 st) (fun (r2 : Int32) =>
(if r2 = 0 then (
 some (((-1) : Int32), st))
else (
 bnd a1 4 (
 (if 0 ≤ (st.1 14 (a1 : Int32).toNatClampNeg) then (
  jn (
    bd (j_X5_found F 2 st) (fun (r9 : Int32) (s10 : sw_St) =>
    some ((r9 : Int32), s10))) (fun k6 =>
   (if a2 < 0 then (
    k6)
   else (
    bnd a1 4 (
    (if a2 < (st.1 14 (a1 : Int32).toNatClampNeg) then (
     bnd a1 4 (
     bnd a2 60 (
     nm (st.1 (10 + (a1 : Int32).toNatClampNeg) (a2 : Int32).toNatClampNeg) (fun (x16 : Int32) =>
     bnd a1 4 (
     bnd a2 60 (
     nm (sw_setC st (10 + (a1 : Int32).toNatClampNeg) (a2 : Int32).toNatClampNeg (vp_nar .byte ((a3 : Int32).toInt8.toInt32))) (fun (s19 : sw_St) =>
     some ((x16 + 1000 : Int32), s19))))))))
    else (
     k6)))))))
 else (
  bd (j_X5_found F 1 st) (fun (r21 : Int32) (s22 : sw_St) =>
  some ((r21 : Int32), s22))))))))
set_option maxHeartbeats 4000000 in
set_option maxRecDepth 100000 in
theorem c_X5_put (F : Nat) (a1 : Int32) (a2 : Int32) (a3 : Int32) (st : sw_St) {r : Int32} {st1 : sw_St} (h : j_X5_put F a1 a2 a3 st = some (r, st1)) : sw_CI yX5_put (.code yX5_put cX5_put 5 (some .int)) 2 (fun g => [.ref (g.1 0), .int a1, .int a2, .int a3]) st r st1 := by
  refine sw_entI RX5 (fun g => [(0, .ref (g.1 0)), (1, .int a1), (2, .int a2), (3, .int a3)]) (by decide) rfl (fun _ => Nat.le_of_ble_eq_true rfl) (fun _ => rfl) ?_
  intro p l e s m args below meth c g X hr hlk
  unfold j_X5_put at h
  refine sw_iload_n X 1 rfl rfl dX5_put_0 ?_
  obtain ⟨r2, c1, h⟩ := bo_E h
  refine sw_callSI X (As := (fun g => [.int a1])) ws_X5_isText (by omega) (c_X5_isText F a1 st c1) rfl rfl (Nat.le_of_ble_eq_true rfl) wm_X5_117 dX5_put_1 ?_
  refine sw_if_ne X 9 (by decide) dX5_put_4 (fun q3 => ?_) (fun q3 => ?_)
  · have h := ite_F h q3
    refine sw_aload_n X 0 rfl rfl dX5_put_9 ?_
    refine sw_getR X sw_cl5 (show sw_kd 0 = 5 from rfl) (k := 3) rfl (by decide) (o1 := 14) rfl wf_X5_23 dX5_put_10 ?_
    refine sw_iload_n X 1 rfl rfl dX5_put_13 ?_
    obtain ⟨q4, h⟩ := bnd_E h
    refine sw_iald X (show sw_kd 14 = 8 from rfl) (n := 4) rfl q4 dX5_put_14 ?_
    refine sw_if_ge X 24 (by decide) dX5_put_15 (fun q5 => ?_) (fun q5 => ?_)
    · have h := ite_T h q5
      refine sw_iload_n X 2 rfl rfl dX5_put_24 ?_
      refine jn0_E (sw_V p l e 2 s m args below meth c g (sw_A g s.heap.size) (sw_QI below g args s r st1) 5 38 [(0, .ref (g.1 0))] [] st) h (fun h => ?_) (fun k6 J7 h => ?_)
      · refine sw_aload_n X 0 rfl rfl dX5_put_38 ?_
        refine sw_iconst X (v := 2) (by decide) dX5_put_39 ?_
        obtain ⟨r9, s10, c8, h⟩ := bd_E h
        refine sw_callVI X (o := 0) (As := (fun g => [.int 2])) sw_cl5 (show sw_kd 0 = 5 from rfl) ws_X5_found (by omega) (c_X5_found F 2 st c8) rfl rfl (Nat.le_of_ble_eq_true rfl) wm_X5_99 dX5_put_40 ?_
        exact sw_iret X hr hlk dX5_put_43 h
      · refine sw_if_lt X 38 (by decide) dX5_put_25 (fun q11 => ?_) (fun q11 => ?_)
        · have h := ite_T h q11
          refine sw_sub [0] rfl ?_
          exact J7  h
        · have h := ite_F h q11
          refine sw_iload_n X 2 rfl rfl dX5_put_28 ?_
          refine sw_aload_n X 0 rfl rfl dX5_put_29 ?_
          refine sw_getR X sw_cl5 (show sw_kd 0 = 5 from rfl) (k := 3) rfl (by decide) (o1 := 14) rfl wf_X5_23 dX5_put_30 ?_
          refine sw_iload_n X 1 rfl rfl dX5_put_33 ?_
          obtain ⟨q12, h⟩ := bnd_E h
          refine sw_iald X (show sw_kd 14 = 8 from rfl) (n := 4) rfl q12 dX5_put_34 ?_
          refine sw_icmp_lt X 44 (by decide) dX5_put_35 (fun q13 => ?_) (fun q13 => ?_)
          · have h := ite_T h q13
            refine sw_aload_n X 0 rfl rfl dX5_put_44 ?_
            refine sw_getR X sw_cl5 (show sw_kd 0 = 5 from rfl) (k := 2) rfl (by decide) (o1 := 9) rfl wf_X5_20 dX5_put_45 ?_
            refine sw_iload_n X 1 rfl rfl dX5_put_48 ?_
            obtain ⟨q14, h⟩ := bnd_E h
            refine sw_aaldB X (show sw_kd 9 = 11 from rfl) (n := 4) rfl q14 (a1 := 10 + (a1 : Int32).toNatClampNeg) rfl dX5_put_49 ?_
            refine sw_iload_n X 2 rfl rfl dX5_put_50 ?_
            obtain ⟨q15, h⟩ := bnd_E h
            refine sw_bald X (show sw_kd (10 + (a1 : Int32).toNatClampNeg) = 7 from (sw_xk q14)) (n := 60) (sw_xn q14) q15 dX5_put_51 ?_
            refine sw_topi (fun x16 ex16 => ?_)
            have h := nm_E h ex16
            refine sw_istore X [(4, .int x16), (0, .ref (g.1 0)), (1, .int a1), (2, .int a2), (3, .int a3)] (by decide) rfl dX5_put_52 ?_
            refine sw_aload_n X 1 rfl rfl dX5_put_54 ?_
            refine sw_getR X sw_cl5 (show sw_kd 0 = 5 from rfl) (k := 2) rfl (by decide) (o1 := 9) rfl wf_X5_20 dX5_put_55 ?_
            refine sw_iload_n X 2 rfl rfl dX5_put_58 ?_
            obtain ⟨q17, h⟩ := bnd_E h
            refine sw_aaldB X (show sw_kd 9 = 11 from rfl) (n := 4) rfl q17 (a1 := 10 + (a1 : Int32).toNatClampNeg) rfl dX5_put_59 ?_
            refine sw_iload_n X 3 rfl rfl dX5_put_60 ?_
            refine sw_iload_n X 4 rfl rfl dX5_put_61 ?_
            refine sw_i2b X dX5_put_62 ?_
            obtain ⟨q18, h⟩ := bnd_E h
            refine sw_bast X (show sw_kd (10 + (a1 : Int32).toNatClampNeg) = 7 from (sw_xk q17)) (n := 60) (sw_xn q17) q18 dX5_put_63 (fun s19 es19 => ?_)
            have h := nm_E h es19
            refine sw_iload X 0 rfl dX5_put_64 ?_
            refine sw_sipush X (v := 1000) (by decide) dX5_put_66 ?_
            refine sw_iadd X dX5_put_69 ?_
            exact sw_iret X hr hlk dX5_put_70 h
          · have h := ite_F h q13
            refine sw_sub [0] rfl ?_
            exact J7  h
    · have h := ite_F h q5
      refine sw_aload_n X 0 rfl rfl dX5_put_18 ?_
      refine sw_iconst X (v := 1) (by decide) dX5_put_19 ?_
      obtain ⟨r21, s22, c20, h⟩ := bd_E h
      refine sw_callVI X (o := 0) (As := (fun g => [.int 1])) sw_cl5 (show sw_kd 0 = 5 from rfl) ws_X5_found (by omega) (c_X5_found F 1 st c20) rfl rfl (Nat.le_of_ble_eq_true rfl) wm_X5_99 dX5_put_20 ?_
      exact sw_iret X hr hlk dX5_put_23 h
  · have h := ite_T h q3
    refine sw_iconst X (v := (-1)) (by decide) dX5_put_7 ?_
    exact sw_iret X hr hlk dX5_put_8 h
theorem dX5_fault_0 : decode cX5_fault 0 = .ok (.iload_n 1, 1) := by decide +kernel
theorem dX5_fault_1 : decode cX5_fault 1 = .ok (.invokestatic 117, 3) := by decide +kernel
theorem dX5_fault_4 : decode cX5_fault 4 = .ok (.ifCond .ne 5, 3) := by decide +kernel
theorem dX5_fault_7 : decode cX5_fault 7 = .ok (.iconst (-1), 1) := by decide +kernel
theorem dX5_fault_8 : decode cX5_fault 8 = .ok (.ireturn, 1) := by decide +kernel
theorem dX5_fault_9 : decode cX5_fault 9 = .ok (.aload_n 0, 1) := by decide +kernel
theorem dX5_fault_10 : decode cX5_fault 10 = .ok (.getfield 23, 3) := by decide +kernel
theorem dX5_fault_13 : decode cX5_fault 13 = .ok (.iload_n 1, 1) := by decide +kernel
theorem dX5_fault_14 : decode cX5_fault 14 = .ok (.iaload, 1) := by decide +kernel
theorem dX5_fault_15 : decode cX5_fault 15 = .ok (.ifCond .ge 9, 3) := by decide +kernel
theorem dX5_fault_18 : decode cX5_fault 18 = .ok (.aload_n 0, 1) := by decide +kernel
theorem dX5_fault_19 : decode cX5_fault 19 = .ok (.iconst 1, 1) := by decide +kernel
theorem dX5_fault_20 : decode cX5_fault 20 = .ok (.invokevirtual 99, 3) := by decide +kernel
theorem dX5_fault_23 : decode cX5_fault 23 = .ok (.ireturn, 1) := by decide +kernel
theorem dX5_fault_24 : decode cX5_fault 24 = .ok (.aload_n 0, 1) := by decide +kernel
theorem dX5_fault_25 : decode cX5_fault 25 = .ok (.getfield 47, 3) := by decide +kernel
theorem dX5_fault_28 : decode cX5_fault 28 = .ok (.aload_n 0, 1) := by decide +kernel
theorem dX5_fault_29 : decode cX5_fault 29 = .ok (.getfield 20, 3) := by decide +kernel
theorem dX5_fault_32 : decode cX5_fault 32 = .ok (.iload_n 1, 1) := by decide +kernel
theorem dX5_fault_33 : decode cX5_fault 33 = .ok (.aaload, 1) := by decide +kernel
theorem dX5_fault_34 : decode cX5_fault 34 = .ok (.aload_n 0, 1) := by decide +kernel
theorem dX5_fault_35 : decode cX5_fault 35 = .ok (.getfield 23, 3) := by decide +kernel
theorem dX5_fault_38 : decode cX5_fault 38 = .ok (.iload_n 1, 1) := by decide +kernel
theorem dX5_fault_39 : decode cX5_fault 39 = .ok (.iaload, 1) := by decide +kernel
theorem dX5_fault_40 : decode cX5_fault 40 = .ok (.aload_n 0, 1) := by decide +kernel
theorem dX5_fault_41 : decode cX5_fault 41 = .ok (.getfield 33, 3) := by decide +kernel
theorem dX5_fault_44 : decode cX5_fault 44 = .ok (.invokevirtual 123, 3) := by decide +kernel
theorem dX5_fault_47 : decode cX5_fault 47 = .ok (.ireturn, 1) := by decide +kernel
def j_X5_fault (F : Nat) (a1 : Int32) (st : sw_St) : Option (Int32 × sw_St) :=
bo (j_X5_isText F a1 st) (fun (r2 : Int32) =>
(if r2 = 0 then (
 some (((-1) : Int32), st))
else (
 bnd a1 4 (
 (if 0 ≤ (st.1 14 (a1 : Int32).toNatClampNeg) then (
  bnd a1 4 (
  bnd a1 4 (
  bd (j_X3_readTown F (10 + (a1 : Int32).toNatClampNeg) (st.1 14 (a1 : Int32).toNatClampNeg) st) (fun (r9 : Int32) (s10 : sw_St) =>
  some ((r9 : Int32), s10)))))
 else (
  bd (j_X5_found F 1 st) (fun (r12 : Int32) (s13 : sw_St) =>
  some ((r12 : Int32), s13))))))))
set_option maxHeartbeats 4000000 in
set_option maxRecDepth 100000 in
theorem c_X5_fault (F : Nat) (a1 : Int32) (st : sw_St) {r : Int32} {st1 : sw_St} (h : j_X5_fault F a1 st = some (r, st1)) : sw_CI yX5_fault (.code yX5_fault cX5_fault 2 (some .int)) 5 (fun g => [.ref (g.1 0), .int a1]) st r st1 := by
  refine sw_entI RX5 (fun g => [(0, .ref (g.1 0)), (1, .int a1)]) (by decide) rfl (fun _ => Nat.le_of_ble_eq_true rfl) (fun _ => rfl) ?_
  intro p l e s m args below meth c g X hr hlk
  unfold j_X5_fault at h
  refine sw_iload_n X 1 rfl rfl dX5_fault_0 ?_
  obtain ⟨r2, c1, h⟩ := bo_E h
  refine sw_callSI X (As := (fun g => [.int a1])) ws_X5_isText (by omega) (c_X5_isText F a1 st c1) rfl rfl (Nat.le_of_ble_eq_true rfl) wm_X5_117 dX5_fault_1 ?_
  refine sw_if_ne X 9 (by decide) dX5_fault_4 (fun q3 => ?_) (fun q3 => ?_)
  · have h := ite_F h q3
    refine sw_aload_n X 0 rfl rfl dX5_fault_9 ?_
    refine sw_getR X sw_cl5 (show sw_kd 0 = 5 from rfl) (k := 3) rfl (by decide) (o1 := 14) rfl wf_X5_23 dX5_fault_10 ?_
    refine sw_iload_n X 1 rfl rfl dX5_fault_13 ?_
    obtain ⟨q4, h⟩ := bnd_E h
    refine sw_iald X (show sw_kd 14 = 8 from rfl) (n := 4) rfl q4 dX5_fault_14 ?_
    refine sw_if_ge X 24 (by decide) dX5_fault_15 (fun q5 => ?_) (fun q5 => ?_)
    · have h := ite_T h q5
      refine sw_aload_n X 0 rfl rfl dX5_fault_24 ?_
      refine sw_getR X sw_cl5 (show sw_kd 0 = 5 from rfl) (k := 8) rfl (by decide) (o1 := 52) rfl wf_X5_47 dX5_fault_25 ?_
      refine sw_aload_n X 0 rfl rfl dX5_fault_28 ?_
      refine sw_getR X sw_cl5 (show sw_kd 0 = 5 from rfl) (k := 2) rfl (by decide) (o1 := 9) rfl wf_X5_20 dX5_fault_29 ?_
      refine sw_iload_n X 1 rfl rfl dX5_fault_32 ?_
      obtain ⟨q6, h⟩ := bnd_E h
      refine sw_aaldB X (show sw_kd 9 = 11 from rfl) (n := 4) rfl q6 (a1 := 10 + (a1 : Int32).toNatClampNeg) rfl dX5_fault_33 ?_
      refine sw_aload_n X 0 rfl rfl dX5_fault_34 ?_
      refine sw_getR X sw_cl5 (show sw_kd 0 = 5 from rfl) (k := 3) rfl (by decide) (o1 := 14) rfl wf_X5_23 dX5_fault_35 ?_
      refine sw_iload_n X 1 rfl rfl dX5_fault_38 ?_
      obtain ⟨q7, h⟩ := bnd_E h
      refine sw_iald X (show sw_kd 14 = 8 from rfl) (n := 4) rfl q7 dX5_fault_39 ?_
      refine sw_aload_n X 0 rfl rfl dX5_fault_40 ?_
      refine sw_getR X sw_cl5 (show sw_kd 0 = 5 from rfl) (k := 5) rfl (by decide) (o1 := 22) rfl wf_X5_33 dX5_fault_41 ?_
      obtain ⟨r9, s10, c8, h⟩ := bd_E h
      refine sw_callVI X (o := 52) (As := (fun g => [.ref (g.1 (10 + (a1 : Int32).toNatClampNeg)), .int (st.1 14 (a1 : Int32).toNatClampNeg), .ref (g.1 22)])) sw_cl3 (show sw_kd 52 = 3 from rfl) ws_X3_readTown (by omega) (c_X3_readTown F (show sw_kd (10 + (a1 : Int32).toNatClampNeg) = 7 from (sw_xk q6)) (st.1 14 (a1 : Int32).toNatClampNeg) st c8) rfl rfl (Nat.le_of_ble_eq_true rfl) wm_X5_123 dX5_fault_44 ?_
      exact sw_iret X hr hlk dX5_fault_47 h
    · have h := ite_F h q5
      refine sw_aload_n X 0 rfl rfl dX5_fault_18 ?_
      refine sw_iconst X (v := 1) (by decide) dX5_fault_19 ?_
      obtain ⟨r12, s13, c11, h⟩ := bd_E h
      refine sw_callVI X (o := 0) (As := (fun g => [.int 1])) sw_cl5 (show sw_kd 0 = 5 from rfl) ws_X5_found (by omega) (c_X5_found F 1 st c11) rfl rfl (Nat.le_of_ble_eq_true rfl) wm_X5_99 dX5_fault_20 ?_
      exact sw_iret X hr hlk dX5_fault_23 h
  · have h := ite_T h q3
    refine sw_iconst X (v := (-1)) (by decide) dX5_fault_7 ?_
    exact sw_iret X hr hlk dX5_fault_8 h
theorem dX5_town_0 : decode cX5_town 0 = .ok (.iload_n 1, 1) := by decide +kernel
theorem dX5_town_1 : decode cX5_town 1 = .ok (.invokestatic 117, 3) := by decide +kernel
theorem dX5_town_4 : decode cX5_town 4 = .ok (.ifCond .ne 5, 3) := by decide +kernel
theorem dX5_town_7 : decode cX5_town 7 = .ok (.iconst (-1), 1) := by decide +kernel
theorem dX5_town_8 : decode cX5_town 8 = .ok (.ireturn, 1) := by decide +kernel
theorem dX5_town_9 : decode cX5_town 9 = .ok (.aload_n 0, 1) := by decide +kernel
theorem dX5_town_10 : decode cX5_town 10 = .ok (.getfield 23, 3) := by decide +kernel
theorem dX5_town_13 : decode cX5_town 13 = .ok (.iload_n 1, 1) := by decide +kernel
theorem dX5_town_14 : decode cX5_town 14 = .ok (.iaload, 1) := by decide +kernel
theorem dX5_town_15 : decode cX5_town 15 = .ok (.ifCond .ge 9, 3) := by decide +kernel
theorem dX5_town_18 : decode cX5_town 18 = .ok (.aload_n 0, 1) := by decide +kernel
theorem dX5_town_19 : decode cX5_town 19 = .ok (.iconst 1, 1) := by decide +kernel
theorem dX5_town_20 : decode cX5_town 20 = .ok (.invokevirtual 99, 3) := by decide +kernel
theorem dX5_town_23 : decode cX5_town 23 = .ok (.ireturn, 1) := by decide +kernel
theorem dX5_town_24 : decode cX5_town 24 = .ok (.aload_n 0, 1) := by decide +kernel
theorem dX5_town_25 : decode cX5_town 25 = .ok (.getfield 47, 3) := by decide +kernel
theorem dX5_town_28 : decode cX5_town 28 = .ok (.aload_n 0, 1) := by decide +kernel
theorem dX5_town_29 : decode cX5_town 29 = .ok (.getfield 20, 3) := by decide +kernel
theorem dX5_town_32 : decode cX5_town 32 = .ok (.iload_n 1, 1) := by decide +kernel
theorem dX5_town_33 : decode cX5_town 33 = .ok (.aaload, 1) := by decide +kernel
theorem dX5_town_34 : decode cX5_town 34 = .ok (.aload_n 0, 1) := by decide +kernel
theorem dX5_town_35 : decode cX5_town 35 = .ok (.getfield 23, 3) := by decide +kernel
theorem dX5_town_38 : decode cX5_town 38 = .ok (.iload_n 1, 1) := by decide +kernel
theorem dX5_town_39 : decode cX5_town 39 = .ok (.iaload, 1) := by decide +kernel
theorem dX5_town_40 : decode cX5_town 40 = .ok (.aload_n 0, 1) := by decide +kernel
theorem dX5_town_41 : decode cX5_town 41 = .ok (.getfield 33, 3) := by decide +kernel
theorem dX5_town_44 : decode cX5_town 44 = .ok (.invokevirtual 123, 3) := by decide +kernel
theorem dX5_town_47 : decode cX5_town 47 = .ok (.bipush (-9), 2) := by decide +kernel
theorem dX5_town_49 : decode cX5_town 49 = .ok (.if_icmp .eq 6, 3) := by decide +kernel
theorem dX5_town_52 : decode cX5_town 52 = .ok (.bipush (-4), 2) := by decide +kernel
theorem dX5_town_54 : decode cX5_town 54 = .ok (.ireturn, 1) := by decide +kernel
theorem dX5_town_55 : decode cX5_town 55 = .ok (.aload_n 0, 1) := by decide +kernel
theorem dX5_town_56 : decode cX5_town 56 = .ok (.getfield 33, 3) := by decide +kernel
theorem dX5_town_59 : decode cX5_town 59 = .ok (.invokevirtual 127, 3) := by decide +kernel
theorem dX5_town_62 : decode cX5_town 62 = .ok (.aload_n 0, 1) := by decide +kernel
theorem dX5_town_63 : decode cX5_town 63 = .ok (.getfield 29, 3) := by decide +kernel
theorem dX5_town_66 : decode cX5_town 66 = .ok (.aload_n 0, 1) := by decide +kernel
theorem dX5_town_67 : decode cX5_town 67 = .ok (.getfield 33, 3) := by decide +kernel
theorem dX5_town_70 : decode cX5_town 70 = .ok (.invokevirtual 130, 3) := by decide +kernel
theorem dX5_town_73 : decode cX5_town 73 = .ok (.iconst 0, 1) := by decide +kernel
theorem dX5_town_74 : decode cX5_town 74 = .ok (.istore_n 2, 1) := by decide +kernel
theorem dX5_town_75 : decode cX5_town 75 = .ok (.iload_n 2, 1) := by decide +kernel
theorem dX5_town_76 : decode cX5_town 76 = .ok (.iconst 3, 1) := by decide +kernel
theorem dX5_town_77 : decode cX5_town 77 = .ok (.if_icmp .ge 16, 3) := by decide +kernel
theorem dX5_town_80 : decode cX5_town 80 = .ok (.aload_n 0, 1) := by decide +kernel
theorem dX5_town_81 : decode cX5_town 81 = .ok (.getfield 40, 3) := by decide +kernel
theorem dX5_town_84 : decode cX5_town 84 = .ok (.iload_n 2, 1) := by decide +kernel
theorem dX5_town_85 : decode cX5_town 85 = .ok (.iconst 0, 1) := by decide +kernel
theorem dX5_town_86 : decode cX5_town 86 = .ok (.bastore, 1) := by decide +kernel
theorem dX5_town_87 : decode cX5_town 87 = .ok (.iinc 2 1, 3) := by decide +kernel
theorem dX5_town_90 : decode cX5_town 90 = .ok (.goto (-15), 3) := by decide +kernel
theorem dX5_town_93 : decode cX5_town 93 = .ok (.aload_n 0, 1) := by decide +kernel
theorem dX5_town_94 : decode cX5_town 94 = .ok (.getfield 29, 3) := by decide +kernel
theorem dX5_town_97 : decode cX5_town 97 = .ok (.getfield 134, 3) := by decide +kernel
theorem dX5_town_100 : decode cX5_town 100 = .ok (.ireturn, 1) := by decide +kernel
def j_X5_town (F : Nat) (a1 : Int32) (st : sw_St) : Option (Int32 × sw_St) :=
bo (j_X5_isText F a1 st) (fun (r2 : Int32) =>
(if r2 = 0 then (
 some (((-1) : Int32), st))
else (
 bnd a1 4 (
 (if 0 ≤ (st.1 14 (a1 : Int32).toNatClampNeg) then (
  bnd a1 4 (
  bnd a1 4 (
  bd (j_X3_readTown F (10 + (a1 : Int32).toNatClampNeg) (st.1 14 (a1 : Int32).toNatClampNeg) st) (fun (r9 : Int32) (s10 : sw_St) =>
  (if r9 = (-9) then (
   bd (j_X4_begin F 22 s10) (fun (_ : Unit) (s13 : sw_St) =>
   bd (j_X4_takeFrom F 15 22 s13) (fun (_ : Unit) (s15 : sw_St) =>
   lz2 (fun f18 (x16 : Int32) (s17 : sw_St) =>
    (if 3 ≤ x16 then (
     some ((s17.1 15 0 : Int32), s17))
    else (
     bnd x16 3 (
     nm (sw_setC s17 51 (x16 : Int32).toNatClampNeg (vp_nar .boolean 0)) (fun (s22 : sw_St) =>
     nm (x16 + 1) (fun (x23 : Int32) =>
     f18 x23 s22)))))) F 0 s15)))
  else (
   some (((-4) : Int32), s10)))))))
 else (
  bd (j_X5_found F 1 st) (fun (r27 : Int32) (s28 : sw_St) =>
  some ((r27 : Int32), s28))))))))
set_option maxHeartbeats 4000000 in
set_option maxRecDepth 100000 in
theorem c_X5_town (F : Nat) (a1 : Int32) (st : sw_St) {r : Int32} {st1 : sw_St} (h : j_X5_town F a1 st = some (r, st1)) : sw_CI yX5_town (.code yX5_town cX5_town 3 (some .int)) 5 (fun g => [.ref (g.1 0), .int a1]) st r st1 := by
  refine sw_entI RX5 (fun g => [(0, .ref (g.1 0)), (1, .int a1)]) (by decide) rfl (fun _ => Nat.le_of_ble_eq_true rfl) (fun _ => rfl) ?_
  intro p l e s m args below meth c g X hr hlk
  unfold j_X5_town at h
  refine sw_iload_n X 1 rfl rfl dX5_town_0 ?_
  obtain ⟨r2, c1, h⟩ := bo_E h
  refine sw_callSI X (As := (fun g => [.int a1])) ws_X5_isText (by omega) (c_X5_isText F a1 st c1) rfl rfl (Nat.le_of_ble_eq_true rfl) wm_X5_117 dX5_town_1 ?_
  refine sw_if_ne X 9 (by decide) dX5_town_4 (fun q3 => ?_) (fun q3 => ?_)
  · have h := ite_F h q3
    refine sw_aload_n X 0 rfl rfl dX5_town_9 ?_
    refine sw_getR X sw_cl5 (show sw_kd 0 = 5 from rfl) (k := 3) rfl (by decide) (o1 := 14) rfl wf_X5_23 dX5_town_10 ?_
    refine sw_iload_n X 1 rfl rfl dX5_town_13 ?_
    obtain ⟨q4, h⟩ := bnd_E h
    refine sw_iald X (show sw_kd 14 = 8 from rfl) (n := 4) rfl q4 dX5_town_14 ?_
    refine sw_if_ge X 24 (by decide) dX5_town_15 (fun q5 => ?_) (fun q5 => ?_)
    · have h := ite_T h q5
      refine sw_aload_n X 0 rfl rfl dX5_town_24 ?_
      refine sw_getR X sw_cl5 (show sw_kd 0 = 5 from rfl) (k := 8) rfl (by decide) (o1 := 52) rfl wf_X5_47 dX5_town_25 ?_
      refine sw_aload_n X 0 rfl rfl dX5_town_28 ?_
      refine sw_getR X sw_cl5 (show sw_kd 0 = 5 from rfl) (k := 2) rfl (by decide) (o1 := 9) rfl wf_X5_20 dX5_town_29 ?_
      refine sw_iload_n X 1 rfl rfl dX5_town_32 ?_
      obtain ⟨q6, h⟩ := bnd_E h
      refine sw_aaldB X (show sw_kd 9 = 11 from rfl) (n := 4) rfl q6 (a1 := 10 + (a1 : Int32).toNatClampNeg) rfl dX5_town_33 ?_
      refine sw_aload_n X 0 rfl rfl dX5_town_34 ?_
      refine sw_getR X sw_cl5 (show sw_kd 0 = 5 from rfl) (k := 3) rfl (by decide) (o1 := 14) rfl wf_X5_23 dX5_town_35 ?_
      refine sw_iload_n X 1 rfl rfl dX5_town_38 ?_
      obtain ⟨q7, h⟩ := bnd_E h
      refine sw_iald X (show sw_kd 14 = 8 from rfl) (n := 4) rfl q7 dX5_town_39 ?_
      refine sw_aload_n X 0 rfl rfl dX5_town_40 ?_
      refine sw_getR X sw_cl5 (show sw_kd 0 = 5 from rfl) (k := 5) rfl (by decide) (o1 := 22) rfl wf_X5_33 dX5_town_41 ?_
      obtain ⟨r9, s10, c8, h⟩ := bd_E h
      refine sw_callVI X (o := 52) (As := (fun g => [.ref (g.1 (10 + (a1 : Int32).toNatClampNeg)), .int (st.1 14 (a1 : Int32).toNatClampNeg), .ref (g.1 22)])) sw_cl3 (show sw_kd 52 = 3 from rfl) ws_X3_readTown (by omega) (c_X3_readTown F (show sw_kd (10 + (a1 : Int32).toNatClampNeg) = 7 from (sw_xk q6)) (st.1 14 (a1 : Int32).toNatClampNeg) st c8) rfl rfl (Nat.le_of_ble_eq_true rfl) wm_X5_123 dX5_town_44 ?_
      refine sw_bipush X (v := (-9)) (by decide) dX5_town_47 ?_
      refine sw_icmp_eq X 55 (by decide) dX5_town_49 (fun q11 => ?_) (fun q11 => ?_)
      · have h := ite_T h q11
        refine sw_aload_n X 0 rfl rfl dX5_town_55 ?_
        refine sw_getR X sw_cl5 (show sw_kd 0 = 5 from rfl) (k := 5) rfl (by decide) (o1 := 22) rfl wf_X5_33 dX5_town_56 ?_
        obtain ⟨u25, s13, c12, h⟩ := bd_E h
        refine sw_callVV X (o := 22) (As := (fun g => [])) sw_cl4 (show sw_kd 22 = 4 from rfl) ws_X4_begin (by omega) (c_X4_begin F (show sw_kd 22 = 4 from rfl) s10 c12) rfl rfl (Nat.le_of_ble_eq_true rfl) wm_X5_127 dX5_town_59 ?_
        refine sw_aload_n X 0 rfl rfl dX5_town_62 ?_
        refine sw_getR X sw_cl5 (show sw_kd 0 = 5 from rfl) (k := 4) rfl (by decide) (o1 := 15) rfl wf_X5_29 dX5_town_63 ?_
        refine sw_aload_n X 0 rfl rfl dX5_town_66 ?_
        refine sw_getR X sw_cl5 (show sw_kd 0 = 5 from rfl) (k := 5) rfl (by decide) (o1 := 22) rfl wf_X5_33 dX5_town_67 ?_
        obtain ⟨u24, s15, c14, h⟩ := bd_E h
        refine sw_callVV X (o := 15) (As := (fun g => [.ref (g.1 22)])) sw_cl4 (show sw_kd 15 = 4 from rfl) ws_X4_takeFrom (by omega) (c_X4_takeFrom F (show sw_kd 15 = 4 from rfl) (show sw_kd 22 = 4 from rfl) s13 c14) rfl rfl (Nat.le_of_ble_eq_true rfl) wm_X5_130 dX5_town_70 ?_
        refine sw_iconst X (v := 0) (by decide) dX5_town_73 ?_
        refine sw_istore_n X [(2, .int 0), (0, .ref (g.1 0)), (1, .int a1)] rfl (by decide) rfl dX5_town_74 ?_
        refine sw_sub [1, 0] rfl ?_
        refine lz2_E (fun (x16 : Int32) (s17 : sw_St) => sw_V p l e 5 s m args below meth c g (sw_A g s.heap.size) (sw_QI below g args s r st1) 3 75 [(0, .ref (g.1 0)), (2, .int x16)] [] s17) h (fun f18 ih19 x16 s17 h => ?_)
        refine sw_iload_n X 1 rfl rfl dX5_town_75 ?_
        refine sw_iconst X (v := 3) (by decide) dX5_town_76 ?_
        refine sw_icmp_ge X 93 (by decide) dX5_town_77 (fun q20 => ?_) (fun q20 => ?_)
        · have h := ite_T h q20
          refine sw_aload_n X 0 rfl rfl dX5_town_93 ?_
          refine sw_getR X sw_cl5 (show sw_kd 0 = 5 from rfl) (k := 4) rfl (by decide) (o1 := 15) rfl wf_X5_29 dX5_town_94 ?_
          refine sw_getI X sw_cl4 (show sw_kd 15 = 4 from rfl) (k := 0) rfl (by decide) wf_X5_134 dX5_town_97 ?_
          exact sw_iret X hr hlk dX5_town_100 h
        · have h := ite_F h q20
          refine sw_aload_n X 0 rfl rfl dX5_town_80 ?_
          refine sw_getR X sw_cl5 (show sw_kd 0 = 5 from rfl) (k := 7) rfl (by decide) (o1 := 51) rfl wf_X5_40 dX5_town_81 ?_
          refine sw_iload_n X 1 rfl rfl dX5_town_84 ?_
          refine sw_iconst X (v := 0) (by decide) dX5_town_85 ?_
          obtain ⟨q21, h⟩ := bnd_E h
          refine sw_zast X (show sw_kd 51 = 9 from rfl) (n := 3) rfl q21 dX5_town_86 (fun s22 es22 => ?_)
          have h := nm_E h es22
          obtain ⟨x23, ex23⟩ : ∃ y : Int32, y = x16 + 1 := ⟨_, rfl⟩
          have h := nm_E h ex23
          refine sw_iinc X 1 x23 [(2, .int x23), (0, .ref (g.1 0))] rfl (by rw [ex23]; rfl) (by decide) rfl dX5_town_87 ?_
          refine sw_goto X 75 (by decide) dX5_town_90 ?_
          refine sw_sub [1, 0] rfl ?_
          exact ih19 _ _ h
      · have h := ite_F h q11
        refine sw_bipush X (v := (-4)) (by decide) dX5_town_52 ?_
        exact sw_iret X hr hlk dX5_town_54 h
    · have h := ite_F h q5
      refine sw_aload_n X 0 rfl rfl dX5_town_18 ?_
      refine sw_iconst X (v := 1) (by decide) dX5_town_19 ?_
      obtain ⟨r27, s28, c26, h⟩ := bd_E h
      refine sw_callVI X (o := 0) (As := (fun g => [.int 1])) sw_cl5 (show sw_kd 0 = 5 from rfl) ws_X5_found (by omega) (c_X5_found F 1 st c26) rfl rfl (Nat.le_of_ble_eq_true rfl) wm_X5_99 dX5_town_20 ?_
      exact sw_iret X hr hlk dX5_town_23 h
  · have h := ite_T h q3
    refine sw_iconst X (v := (-1)) (by decide) dX5_town_7 ?_
    exact sw_iret X hr hlk dX5_town_8 h
theorem dX5_stranger_0 : decode cX5_stranger 0 = .ok (.aload_n 0, 1) := by decide +kernel
theorem dX5_stranger_1 : decode cX5_stranger 1 = .ok (.getfield 29, 3) := by decide +kernel
theorem dX5_stranger_4 : decode cX5_stranger 4 = .ok (.iload_n 1, 1) := by decide +kernel
theorem dX5_stranger_5 : decode cX5_stranger 5 = .ok (.invokevirtual 137, 3) := by decide +kernel
theorem dX5_stranger_8 : decode cX5_stranger 8 = .ok (.ifCond .eq 13, 3) := by decide +kernel
theorem dX5_stranger_11 : decode cX5_stranger 11 = .ok (.iload_n 2, 1) := by decide +kernel
theorem dX5_stranger_12 : decode cX5_stranger 12 = .ok (.ifCond .lt 9, 3) := by decide +kernel
theorem dX5_stranger_15 : decode cX5_stranger 15 = .ok (.iload_n 2, 1) := by decide +kernel
theorem dX5_stranger_16 : decode cX5_stranger 16 = .ok (.bipush 6, 2) := by decide +kernel
theorem dX5_stranger_18 : decode cX5_stranger 18 = .ok (.if_icmp .lt 5, 3) := by decide +kernel
theorem dX5_stranger_21 : decode cX5_stranger 21 = .ok (.iconst (-1), 1) := by decide +kernel
theorem dX5_stranger_22 : decode cX5_stranger 22 = .ok (.ireturn, 1) := by decide +kernel
theorem dX5_stranger_23 : decode cX5_stranger 23 = .ok (.aload_n 0, 1) := by decide +kernel
theorem dX5_stranger_24 : decode cX5_stranger 24 = .ok (.aload_n 0, 1) := by decide +kernel
theorem dX5_stranger_25 : decode cX5_stranger 25 = .ok (.getfield 29, 3) := by decide +kernel
theorem dX5_stranger_28 : decode cX5_stranger 28 = .ok (.iload_n 1, 1) := by decide +kernel
theorem dX5_stranger_29 : decode cX5_stranger 29 = .ok (.iload_n 2, 1) := by decide +kernel
theorem dX5_stranger_30 : decode cX5_stranger 30 = .ok (.invokevirtual 140, 3) := by decide +kernel
theorem dX5_stranger_33 : decode cX5_stranger 33 = .ok (.putfield 79, 3) := by decide +kernel
theorem dX5_stranger_36 : decode cX5_stranger 36 = .ok (.iconst 1, 1) := by decide +kernel
theorem dX5_stranger_37 : decode cX5_stranger 37 = .ok (.ireturn, 1) := by decide +kernel
def j_X5_stranger (F : Nat) (a1 : Int32) (a2 : Int32) (st : sw_St) : Option (Int32 × sw_St) :=
bo (j_X4_has F 15 a1 st) (fun (r2 : Int32) =>
jn (
  some (((-1) : Int32), st)) (fun k3 =>
 (if r2 = 0 then (
  k3)
 else (
  (if a2 < 0 then (
   k3)
  else (
   (if a2 < 6 then (
    bo (j_X4_trait F 15 a1 a2 st) (fun (r9 : Int32) =>
    nm (sw_setC st 0 14 r9) (fun (s10 : sw_St) =>
    some ((1 : Int32), s10))))
   else (
    k3))))))))
set_option maxHeartbeats 4000000 in
set_option maxRecDepth 100000 in
theorem c_X5_stranger (F : Nat) (a1 : Int32) (a2 : Int32) (st : sw_St) {r : Int32} {st1 : sw_St} (h : j_X5_stranger F a1 a2 st = some (r, st1)) : sw_CI yX5_stranger (.code yX5_stranger cX5_stranger 3 (some .int)) 5 (fun g => [.ref (g.1 0), .int a1, .int a2]) st r st1 := by
  refine sw_entI RX5 (fun g => [(0, .ref (g.1 0)), (1, .int a1), (2, .int a2)]) (by decide) rfl (fun _ => Nat.le_of_ble_eq_true rfl) (fun _ => rfl) ?_
  intro p l e s m args below meth c g X hr hlk
  unfold j_X5_stranger at h
  refine sw_aload_n X 0 rfl rfl dX5_stranger_0 ?_
  refine sw_getR X sw_cl5 (show sw_kd 0 = 5 from rfl) (k := 4) rfl (by decide) (o1 := 15) rfl wf_X5_29 dX5_stranger_1 ?_
  refine sw_iload_n X 1 rfl rfl dX5_stranger_4 ?_
  obtain ⟨r2, c1, h⟩ := bo_E h
  refine sw_callVI X (o := 15) (As := (fun g => [.int a1])) sw_cl4 (show sw_kd 15 = 4 from rfl) ws_X4_has (by omega) (c_X4_has F (show sw_kd 15 = 4 from rfl) a1 st c1) rfl rfl (Nat.le_of_ble_eq_true rfl) wm_X5_137 dX5_stranger_5 ?_
  refine jn0_E (sw_V p l e 5 s m args below meth c g (sw_A g s.heap.size) (sw_QI below g args s r st1) 3 21 [] [] st) h (fun h => ?_) (fun k3 J4 h => ?_)
  · refine sw_iconst X (v := (-1)) (by decide) dX5_stranger_21 ?_
    exact sw_iret X hr hlk dX5_stranger_22 h
  · refine sw_if_eq X 21 (by decide) dX5_stranger_8 (fun q5 => ?_) (fun q5 => ?_)
    · have h := ite_T h q5
      refine sw_sub [] rfl ?_
      exact J4  h
    · have h := ite_F h q5
      refine sw_iload_n X 2 rfl rfl dX5_stranger_11 ?_
      refine sw_if_lt X 21 (by decide) dX5_stranger_12 (fun q6 => ?_) (fun q6 => ?_)
      · have h := ite_T h q6
        refine sw_sub [] rfl ?_
        exact J4  h
      · have h := ite_F h q6
        refine sw_iload_n X 2 rfl rfl dX5_stranger_15 ?_
        refine sw_bipush X (v := 6) (by decide) dX5_stranger_16 ?_
        refine sw_icmp_lt X 23 (by decide) dX5_stranger_18 (fun q7 => ?_) (fun q7 => ?_)
        · have h := ite_T h q7
          refine sw_aload_n X 0 rfl rfl dX5_stranger_23 ?_
          refine sw_aload_n X 0 rfl rfl dX5_stranger_24 ?_
          refine sw_getR X sw_cl5 (show sw_kd 0 = 5 from rfl) (k := 4) rfl (by decide) (o1 := 15) rfl wf_X5_29 dX5_stranger_25 ?_
          refine sw_iload_n X 1 rfl rfl dX5_stranger_28 ?_
          refine sw_iload_n X 2 rfl rfl dX5_stranger_29 ?_
          obtain ⟨r9, c8, h⟩ := bo_E h
          refine sw_callVI X (o := 15) (As := (fun g => [.int a1, .int a2])) sw_cl4 (show sw_kd 15 = 4 from rfl) ws_X4_trait (by omega) (c_X4_trait F (show sw_kd 15 = 4 from rfl) a1 a2 st c8) rfl rfl (Nat.le_of_ble_eq_true rfl) wm_X5_140 dX5_stranger_30 ?_
          refine sw_putI X sw_cl5 (show sw_kd 0 = 5 from rfl) (k := 14) rfl (by decide) rfl rfl wf_X5_79 dX5_stranger_33 (fun s10 es10 => ?_)
          have h := nm_E h es10
          refine sw_iconst X (v := 1) (by decide) dX5_stranger_36 ?_
          exact sw_iret X hr hlk dX5_stranger_37 h
        · have h := ite_F h q7
          refine sw_sub [] rfl ?_
          exact J4  h
theorem dX5_mark_0 : decode cX5_mark 0 = .ok (.aload_n 0, 1) := by decide +kernel
theorem dX5_mark_1 : decode cX5_mark 1 = .ok (.getfield 29, 3) := by decide +kernel
theorem dX5_mark_4 : decode cX5_mark 4 = .ok (.iload_n 1, 1) := by decide +kernel
theorem dX5_mark_5 : decode cX5_mark 5 = .ok (.invokevirtual 137, 3) := by decide +kernel
theorem dX5_mark_8 : decode cX5_mark 8 = .ok (.ifCond .eq 13, 3) := by decide +kernel
theorem dX5_mark_11 : decode cX5_mark 11 = .ok (.iload_n 2, 1) := by decide +kernel
theorem dX5_mark_12 : decode cX5_mark 12 = .ok (.ifCond .le 9, 3) := by decide +kernel
theorem dX5_mark_15 : decode cX5_mark 15 = .ok (.iload_n 2, 1) := by decide +kernel
theorem dX5_mark_16 : decode cX5_mark 16 = .ok (.bipush 6, 2) := by decide +kernel
theorem dX5_mark_18 : decode cX5_mark 18 = .ok (.if_icmp .lt 5, 3) := by decide +kernel
theorem dX5_mark_21 : decode cX5_mark 21 = .ok (.iconst (-1), 1) := by decide +kernel
theorem dX5_mark_22 : decode cX5_mark 22 = .ok (.ireturn, 1) := by decide +kernel
theorem dX5_mark_23 : decode cX5_mark 23 = .ok (.aload_n 0, 1) := by decide +kernel
theorem dX5_mark_24 : decode cX5_mark 24 = .ok (.getfield 29, 3) := by decide +kernel
theorem dX5_mark_27 : decode cX5_mark 27 = .ok (.iload_n 1, 1) := by decide +kernel
theorem dX5_mark_28 : decode cX5_mark 28 = .ok (.iload_n 2, 1) := by decide +kernel
theorem dX5_mark_29 : decode cX5_mark 29 = .ok (.invokevirtual 143, 3) := by decide +kernel
theorem dX5_mark_32 : decode cX5_mark 32 = .ok (.ifCond .ne 9, 3) := by decide +kernel
theorem dX5_mark_35 : decode cX5_mark 35 = .ok (.aload_n 0, 1) := by decide +kernel
theorem dX5_mark_36 : decode cX5_mark 36 = .ok (.iconst 3, 1) := by decide +kernel
theorem dX5_mark_37 : decode cX5_mark 37 = .ok (.invokevirtual 99, 3) := by decide +kernel
theorem dX5_mark_40 : decode cX5_mark 40 = .ok (.ireturn, 1) := by decide +kernel
theorem dX5_mark_41 : decode cX5_mark 41 = .ok (.aload_n 0, 1) := by decide +kernel
theorem dX5_mark_42 : decode cX5_mark 42 = .ok (.getfield 29, 3) := by decide +kernel
theorem dX5_mark_45 : decode cX5_mark 45 = .ok (.iload_n 1, 1) := by decide +kernel
theorem dX5_mark_46 : decode cX5_mark 46 = .ok (.iload_n 2, 1) := by decide +kernel
theorem dX5_mark_47 : decode cX5_mark 47 = .ok (.invokevirtual 147, 3) := by decide +kernel
theorem dX5_mark_50 : decode cX5_mark 50 = .ok (.ireturn, 1) := by decide +kernel
def j_X5_mark (F : Nat) (a1 : Int32) (a2 : Int32) (st : sw_St) : Option (Int32 × sw_St) :=
bo (j_X4_has F 15 a1 st) (fun (r2 : Int32) =>
jn (
  some (((-1) : Int32), st)) (fun k3 =>
 (if r2 = 0 then (
  k3)
 else (
  (if a2 ≤ 0 then (
   k3)
  else (
   (if a2 < 6 then (
    bo (j_X4_isOf F 15 a1 a2 st) (fun (r9 : Int32) =>
    (if r9 = 0 then (
     bd (j_X5_found F 3 st) (fun (r14 : Int32) (s15 : sw_St) =>
     some ((r14 : Int32), s15)))
    else (
     bo (j_X4_markOf F 15 a1 a2 st) (fun (r12 : Int32) =>
     some ((r12 : Int32), st))))))
   else (
    k3))))))))
set_option maxHeartbeats 4000000 in
set_option maxRecDepth 100000 in
theorem c_X5_mark (F : Nat) (a1 : Int32) (a2 : Int32) (st : sw_St) {r : Int32} {st1 : sw_St} (h : j_X5_mark F a1 a2 st = some (r, st1)) : sw_CI yX5_mark (.code yX5_mark cX5_mark 3 (some .int)) 4 (fun g => [.ref (g.1 0), .int a1, .int a2]) st r st1 := by
  refine sw_entI RX5 (fun g => [(0, .ref (g.1 0)), (1, .int a1), (2, .int a2)]) (by decide) rfl (fun _ => Nat.le_of_ble_eq_true rfl) (fun _ => rfl) ?_
  intro p l e s m args below meth c g X hr hlk
  unfold j_X5_mark at h
  refine sw_aload_n X 0 rfl rfl dX5_mark_0 ?_
  refine sw_getR X sw_cl5 (show sw_kd 0 = 5 from rfl) (k := 4) rfl (by decide) (o1 := 15) rfl wf_X5_29 dX5_mark_1 ?_
  refine sw_iload_n X 1 rfl rfl dX5_mark_4 ?_
  obtain ⟨r2, c1, h⟩ := bo_E h
  refine sw_callVI X (o := 15) (As := (fun g => [.int a1])) sw_cl4 (show sw_kd 15 = 4 from rfl) ws_X4_has (by omega) (c_X4_has F (show sw_kd 15 = 4 from rfl) a1 st c1) rfl rfl (Nat.le_of_ble_eq_true rfl) wm_X5_137 dX5_mark_5 ?_
  refine jn0_E (sw_V p l e 4 s m args below meth c g (sw_A g s.heap.size) (sw_QI below g args s r st1) 3 21 [] [] st) h (fun h => ?_) (fun k3 J4 h => ?_)
  · refine sw_iconst X (v := (-1)) (by decide) dX5_mark_21 ?_
    exact sw_iret X hr hlk dX5_mark_22 h
  · refine sw_if_eq X 21 (by decide) dX5_mark_8 (fun q5 => ?_) (fun q5 => ?_)
    · have h := ite_T h q5
      refine sw_sub [] rfl ?_
      exact J4  h
    · have h := ite_F h q5
      refine sw_iload_n X 2 rfl rfl dX5_mark_11 ?_
      refine sw_if_le X 21 (by decide) dX5_mark_12 (fun q6 => ?_) (fun q6 => ?_)
      · have h := ite_T h q6
        refine sw_sub [] rfl ?_
        exact J4  h
      · have h := ite_F h q6
        refine sw_iload_n X 2 rfl rfl dX5_mark_15 ?_
        refine sw_bipush X (v := 6) (by decide) dX5_mark_16 ?_
        refine sw_icmp_lt X 23 (by decide) dX5_mark_18 (fun q7 => ?_) (fun q7 => ?_)
        · have h := ite_T h q7
          refine sw_aload_n X 0 rfl rfl dX5_mark_23 ?_
          refine sw_getR X sw_cl5 (show sw_kd 0 = 5 from rfl) (k := 4) rfl (by decide) (o1 := 15) rfl wf_X5_29 dX5_mark_24 ?_
          refine sw_iload_n X 1 rfl rfl dX5_mark_27 ?_
          refine sw_iload_n X 2 rfl rfl dX5_mark_28 ?_
          obtain ⟨r9, c8, h⟩ := bo_E h
          refine sw_callVI X (o := 15) (As := (fun g => [.int a1, .int a2])) sw_cl4 (show sw_kd 15 = 4 from rfl) ws_X4_isOf (by omega) (c_X4_isOf F (show sw_kd 15 = 4 from rfl) a1 a2 st c8) rfl rfl (Nat.le_of_ble_eq_true rfl) wm_X5_143 dX5_mark_29 ?_
          refine sw_if_ne X 41 (by decide) dX5_mark_32 (fun q10 => ?_) (fun q10 => ?_)
          · have h := ite_F h q10
            refine sw_aload_n X 0 rfl rfl dX5_mark_41 ?_
            refine sw_getR X sw_cl5 (show sw_kd 0 = 5 from rfl) (k := 4) rfl (by decide) (o1 := 15) rfl wf_X5_29 dX5_mark_42 ?_
            refine sw_iload_n X 1 rfl rfl dX5_mark_45 ?_
            refine sw_iload_n X 2 rfl rfl dX5_mark_46 ?_
            obtain ⟨r12, c11, h⟩ := bo_E h
            refine sw_callVI X (o := 15) (As := (fun g => [.int a1, .int a2])) sw_cl4 (show sw_kd 15 = 4 from rfl) ws_X4_markOf (by omega) (c_X4_markOf F (show sw_kd 15 = 4 from rfl) a1 a2 st c11) rfl rfl (Nat.le_of_ble_eq_true rfl) wm_X5_147 dX5_mark_47 ?_
            exact sw_iret X hr hlk dX5_mark_50 h
          · have h := ite_T h q10
            refine sw_aload_n X 0 rfl rfl dX5_mark_35 ?_
            refine sw_iconst X (v := 3) (by decide) dX5_mark_36 ?_
            obtain ⟨r14, s15, c13, h⟩ := bd_E h
            refine sw_callVI X (o := 0) (As := (fun g => [.int 3])) sw_cl5 (show sw_kd 0 = 5 from rfl) ws_X5_found (by omega) (c_X5_found F 3 st c13) rfl rfl (Nat.le_of_ble_eq_true rfl) wm_X5_99 dX5_mark_37 ?_
            exact sw_iret X hr hlk dX5_mark_40 h
        · have h := ite_F h q7
          refine sw_sub [] rfl ?_
          exact J4  h
