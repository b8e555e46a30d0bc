theorem dX6_row_0 : decode cX6_row 0 = .ok (.iload_n 1, 1) := by decide +kernel
theorem dX6_row_1 : decode cX6_row 1 = .ok (.invokestatic 69, 3) := by decide +kernel
theorem dX6_row_4 : decode cX6_row 4 = .ok (.ifCond .eq 9, 3) := by decide +kernel
theorem dX6_row_7 : decode cX6_row 7 = .ok (.iload_n 2, 1) := by decide +kernel
theorem dX6_row_8 : decode cX6_row 8 = .ok (.bipush 40, 2) := by decide +kernel
theorem dX6_row_10 : decode cX6_row 10 = .ok (.if_icmp .le 5, 3) := by decide +kernel
theorem dX6_row_13 : decode cX6_row 13 = .ok (.iconst (-1), 1) := by decide +kernel
theorem dX6_row_14 : decode cX6_row 14 = .ok (.ireturn, 1) := by decide +kernel
theorem dX6_row_15 : decode cX6_row 15 = .ok (.iload_n 2, 1) := by decide +kernel
theorem dX6_row_16 : decode cX6_row 16 = .ok (.ifCond .ge 9, 3) := by decide +kernel
theorem dX6_row_19 : decode cX6_row 19 = .ok (.aload_n 0, 1) := by decide +kernel
theorem dX6_row_20 : decode cX6_row 20 = .ok (.iconst 5, 1) := by decide +kernel
theorem dX6_row_21 : decode cX6_row 21 = .ok (.invokevirtual 73, 3) := by decide +kernel
theorem dX6_row_24 : decode cX6_row 24 = .ok (.ireturn, 1) := by decide +kernel
theorem dX6_row_25 : decode cX6_row 25 = .ok (.aload_n 0, 1) := by decide +kernel
theorem dX6_row_26 : decode cX6_row 26 = .ok (.iload_n 1, 1) := by decide +kernel
theorem dX6_row_27 : decode cX6_row 27 = .ok (.iload_n 2, 1) := by decide +kernel
theorem dX6_row_28 : decode cX6_row 28 = .ok (.invokevirtual 77, 3) := by decide +kernel
theorem dX6_row_31 : decode cX6_row 31 = .ok (.iload_n 2, 1) := by decide +kernel
theorem dX6_row_32 : decode cX6_row 32 = .ok (.ireturn, 1) := by decide +kernel
def j_X6_row (F : Nat) (a1 : Int32) (a2 : Int32) (st : sw_St) : Option (Int32 × sw_St) :=
bo (j_X6_isRow F a1 st) (fun (r2 : Int32) =>
jn (
  some (((-1) : Int32), st)) (fun k3 =>
 (if r2 = 0 then (
  k3)
 else (
  (if a2 ≤ 40 then (
   (if 0 ≤ a2 then (
    bd (j_X6_makeRow F a1 a2 st) (fun (_ : Unit) (s9 : sw_St) =>
    some ((a2 : Int32), s9)))
   else (
    bd (j_X6_find F 5 st) (fun (r12 : Int32) (s13 : sw_St) =>
    some ((r12 : Int32), s13)))))
  else (
   k3))))))
set_option maxHeartbeats 4000000 in
set_option maxRecDepth 100000 in
theorem c_X6_row (F : Nat) (a1 : Int32) (a2 : Int32) (st : sw_St) {r : Int32} {st1 : sw_St} (h : j_X6_row F a1 a2 st = some (r, st1)) : sw_CI yX6_row (.code yX6_row cX6_row 3 (some .int)) 3 (fun g => [.ref (g.1 63), .int a1, .int a2]) st r st1 := by
  refine sw_entI RX6 (fun g => [(0, .ref (g.1 63)), (1, .int a1), (2, .int a2)]) (by decide) rfl (fun _ => Nat.le_of_ble_eq_true rfl) (fun _ => rfl) ?_
  intro p l e s m args below meth c g X hr hlk
  unfold j_X6_row at h
  refine sw_iload_n X 1 rfl rfl dX6_row_0 ?_
  obtain ⟨r2, c1, h⟩ := bo_E h
  refine sw_callSI X (As := (fun g => [.int a1])) ws_X6_isRow (by omega) (c_X6_isRow F a1 st c1) rfl rfl (Nat.le_of_ble_eq_true rfl) wm_X6_69 dX6_row_1 ?_
  refine jn0_E (sw_V p l e 3 s m args below meth c g (sw_A g s.heap.size) (sw_QI below g args s r st1) 3 13 [] [] st) h (fun h => ?_) (fun k3 J4 h => ?_)
  · refine sw_iconst X (v := (-1)) (by decide) dX6_row_13 ?_
    exact sw_iret X hr hlk dX6_row_14 h
  · refine sw_if_eq X 13 (by decide) dX6_row_4 (fun q5 => ?_) (fun q5 => ?_)
    · have h := ite_T h q5
      refine sw_sub [] rfl ?_
      exact J4  h
    · have h := ite_F h q5
      refine sw_iload_n X 2 rfl rfl dX6_row_7 ?_
      refine sw_bipush X (v := 40) (by decide) dX6_row_8 ?_
      refine sw_icmp_le X 15 (by decide) dX6_row_10 (fun q6 => ?_) (fun q6 => ?_)
      · have h := ite_T h q6
        refine sw_iload_n X 2 rfl rfl dX6_row_15 ?_
        refine sw_if_ge X 25 (by decide) dX6_row_16 (fun q7 => ?_) (fun q7 => ?_)
        · have h := ite_T h q7
          refine sw_aload_n X 0 rfl rfl dX6_row_25 ?_
          refine sw_iload_n X 1 rfl rfl dX6_row_26 ?_
          refine sw_iload_n X 2 rfl rfl dX6_row_27 ?_
          obtain ⟨u10, s9, c8, h⟩ := bd_E h
          refine sw_callVV X (o := 63) (As := (fun g => [.int a1, .int a2])) sw_cl6 (show sw_kd 63 = 6 from rfl) ws_X6_makeRow (by omega) (c_X6_makeRow F a1 a2 st c8) rfl rfl (Nat.le_of_ble_eq_true rfl) wm_X6_77 dX6_row_28 ?_
          refine sw_iload_n X 2 rfl rfl dX6_row_31 ?_
          exact sw_iret X hr hlk dX6_row_32 h
        · have h := ite_F h q7
          refine sw_aload_n X 0 rfl rfl dX6_row_19 ?_
          refine sw_iconst X (v := 5) (by decide) dX6_row_20 ?_
          obtain ⟨r12, s13, c11, h⟩ := bd_E h
          refine sw_callVI X (o := 63) (As := (fun g => [.int 5])) sw_cl6 (show sw_kd 63 = 6 from rfl) ws_X6_find (by omega) (c_X6_find F 5 st c11) rfl rfl (Nat.le_of_ble_eq_true rfl) wm_X6_73 dX6_row_21 ?_
          exact sw_iret X hr hlk dX6_row_24 h
      · have h := ite_F h q6
        refine sw_sub [] rfl ?_
        exact J4  h
theorem dX6_refused_0 : decode cX6_refused 0 = .ok (.iload_n 1, 1) := by decide +kernel
theorem dX6_refused_1 : decode cX6_refused 1 = .ok (.invokestatic 69, 3) := by decide +kernel
theorem dX6_refused_4 : decode cX6_refused 4 = .ok (.ifCond .ne 7, 3) := by decide +kernel
theorem dX6_refused_7 : decode cX6_refused 7 = .ok (.iconst (-1), 1) := by decide +kernel
theorem dX6_refused_8 : decode cX6_refused 8 = .ok (.goto 47, 3) := by decide +kernel
theorem dX6_refused_11 : decode cX6_refused 11 = .ok (.aload_n 0, 1) := by decide +kernel
theorem dX6_refused_12 : decode cX6_refused 12 = .ok (.getfield 22, 3) := by decide +kernel
theorem dX6_refused_15 : decode cX6_refused 15 = .ok (.iload_n 1, 1) := by decide +kernel
theorem dX6_refused_16 : decode cX6_refused 16 = .ok (.iaload, 1) := by decide +kernel
theorem dX6_refused_17 : decode cX6_refused 17 = .ok (.ifCond .ge 11, 3) := by decide +kernel
theorem dX6_refused_20 : decode cX6_refused 20 = .ok (.aload_n 0, 1) := by decide +kernel
theorem dX6_refused_21 : decode cX6_refused 21 = .ok (.iconst 1, 1) := by decide +kernel
theorem dX6_refused_22 : decode cX6_refused 22 = .ok (.invokevirtual 73, 3) := by decide +kernel
theorem dX6_refused_25 : decode cX6_refused 25 = .ok (.goto 30, 3) := by decide +kernel
theorem dX6_refused_28 : decode cX6_refused 28 = .ok (.iload_n 2, 1) := by decide +kernel
theorem dX6_refused_29 : decode cX6_refused 29 = .ok (.i2l, 1) := by decide +kernel
theorem dX6_refused_30 : decode cX6_refused 30 = .ok (.lconst 0, 1) := by decide +kernel
theorem dX6_refused_31 : decode cX6_refused 31 = .ok (.aload_n 0, 1) := by decide +kernel
theorem dX6_refused_32 : decode cX6_refused 32 = .ok (.getfield 22, 3) := by decide +kernel
theorem dX6_refused_35 : decode cX6_refused 35 = .ok (.iload_n 1, 1) := by decide +kernel
theorem dX6_refused_36 : decode cX6_refused 36 = .ok (.iaload, 1) := by decide +kernel
theorem dX6_refused_37 : decode cX6_refused 37 = .ok (.iconst 1, 1) := by decide +kernel
theorem dX6_refused_38 : decode cX6_refused 38 = .ok (.isub, 1) := by decide +kernel
theorem dX6_refused_39 : decode cX6_refused 39 = .ok (.i2l, 1) := by decide +kernel
theorem dX6_refused_40 : decode cX6_refused 40 = .ok (.invokestatic 63, 3) := by decide +kernel
theorem dX6_refused_43 : decode cX6_refused 43 = .ok (.ifCond .eq 7, 3) := by decide +kernel
theorem dX6_refused_46 : decode cX6_refused 46 = .ok (.iconst 0, 1) := by decide +kernel
theorem dX6_refused_47 : decode cX6_refused 47 = .ok (.goto 8, 3) := by decide +kernel
theorem dX6_refused_50 : decode cX6_refused 50 = .ok (.aload_n 0, 1) := by decide +kernel
theorem dX6_refused_51 : decode cX6_refused 51 = .ok (.iconst 2, 1) := by decide +kernel
theorem dX6_refused_52 : decode cX6_refused 52 = .ok (.invokevirtual 73, 3) := by decide +kernel
theorem dX6_refused_55 : decode cX6_refused 55 = .ok (.ireturn, 1) := by decide +kernel
def j_X6_refused (F : Nat) (a1 : Int32) (a2 : Int32) (st : sw_St) : Option (Int32 × sw_St) :=
bo (j_X6_isRow F a1 st) (fun (r2 : Int32) =>
jn (fun (x3 : Int32) (s4 : sw_St) => 
  some ((x3 : Int32), s4)) (fun k5 =>
 (if r2 = 0 then (
  k5 (-1) st)
 else (
  bnd a1 6 (
  (if 0 ≤ (st.1 68 (a1 : Int32).toNatClampNeg) then (
   bnd a1 6 (
   bo (j_X6_in F ((a2 : Int32).toInt64) 0 ((((st.1 68 (a1 : Int32).toNatClampNeg) - 1) : Int32).toInt64) st) (fun (r12 : Int32) =>
   (if r12 = 0 then (
    bd (j_X6_find F 2 st) (fun (r15 : Int32) (s16 : sw_St) =>
    k5 r15 s16))
   else (
    k5 0 st)))))
  else (
   bd (j_X6_find F 1 st) (fun (r18 : Int32) (s19 : sw_St) =>
   k5 r18 s19))))))))
set_option maxHeartbeats 4000000 in
set_option maxRecDepth 100000 in
theorem c_X6_refused (F : Nat) (a1 : Int32) (a2 : Int32) (st : sw_St) {r : Int32} {st1 : sw_St} (h : j_X6_refused F a1 a2 st = some (r, st1)) : sw_CI yX6_refused (.code yX6_refused cX6_refused 3 (some .int)) 3 (fun g => [.ref (g.1 63), .int a1, .int a2]) st r st1 := by
  refine sw_entI RX6 (fun g => [(0, .ref (g.1 63)), (1, .int a1), (2, .int a2)]) (by decide) rfl (fun _ => Nat.le_of_ble_eq_true rfl) (fun _ => rfl) ?_
  intro p l e s m args below meth c g X hr hlk
  unfold j_X6_refused at h
  refine sw_iload_n X 1 rfl rfl dX6_refused_0 ?_
  obtain ⟨r2, c1, h⟩ := bo_E h
  refine sw_callSI X (As := (fun g => [.int a1])) ws_X6_isRow (by omega) (c_X6_isRow F a1 st c1) rfl rfl (Nat.le_of_ble_eq_true rfl) wm_X6_69 dX6_refused_1 ?_
  refine jn2_E (fun (x3 : Int32) (s4 : sw_St) => sw_V p l e 3 s m args below meth c g (sw_A g s.heap.size) (sw_QI below g args s r st1) 3 55 [] [.int x3] s4) h (fun x3 s4 h => ?_) (fun k5 J6 h => ?_)
  · exact sw_iret X hr hlk dX6_refused_55 h
  · refine sw_if_ne X 11 (by decide) dX6_refused_4 (fun q7 => ?_) (fun q7 => ?_)
    · have h := ite_F h q7
      refine sw_aload_n X 0 rfl rfl dX6_refused_11 ?_
      refine sw_getR X sw_cl6 (show sw_kd 63 = 6 from rfl) (k := 5) rfl (by decide) (o1 := 68) rfl wf_X6_22 dX6_refused_12 ?_
      refine sw_iload_n X 1 rfl rfl dX6_refused_15 ?_
      obtain ⟨q8, h⟩ := bnd_E h
      refine sw_iald X (show sw_kd 68 = 8 from rfl) (n := 6) rfl q8 dX6_refused_16 ?_
      refine sw_if_ge X 28 (by decide) dX6_refused_17 (fun q9 => ?_) (fun q9 => ?_)
      · have h := ite_T h q9
        refine sw_iload_n X 2 rfl rfl dX6_refused_28 ?_
        refine sw_i2l X dX6_refused_29 ?_
        refine sw_lconst X (v := 0) (by decide) dX6_refused_30 ?_
        refine sw_aload_n X 0 rfl rfl dX6_refused_31 ?_
        refine sw_getR X sw_cl6 (show sw_kd 63 = 6 from rfl) (k := 5) rfl (by decide) (o1 := 68) rfl wf_X6_22 dX6_refused_32 ?_
        refine sw_iload_n X 1 rfl rfl dX6_refused_35 ?_
        obtain ⟨q10, h⟩ := bnd_E h
        refine sw_iald X (show sw_kd 68 = 8 from rfl) (n := 6) rfl q10 dX6_refused_36 ?_
        refine sw_iconst X (v := 1) (by decide) dX6_refused_37 ?_
        refine sw_isub X dX6_refused_38 ?_
        refine sw_i2l X dX6_refused_39 ?_
        obtain ⟨r12, c11, h⟩ := bo_E h
        refine sw_callSI X (As := (fun g => [.long ((a2 : Int32).toInt64), .long 0, .long ((((st.1 68 (a1 : Int32).toNatClampNeg) - 1) : Int32).toInt64)])) ws_X6_in (by omega) (c_X6_in F ((a2 : Int32).toInt64) 0 ((((st.1 68 (a1 : Int32).toNatClampNeg) - 1) : Int32).toInt64) st c11) rfl rfl (Nat.le_of_ble_eq_true rfl) wm_X6_63 dX6_refused_40 ?_
        refine sw_if_eq X 50 (by decide) dX6_refused_43 (fun q13 => ?_) (fun q13 => ?_)
        · have h := ite_T h q13
          refine sw_aload_n X 0 rfl rfl dX6_refused_50 ?_
          refine sw_iconst X (v := 2) (by decide) dX6_refused_51 ?_
          obtain ⟨r15, s16, c14, h⟩ := bd_E h
          refine sw_callVI X (o := 63) (As := (fun g => [.int 2])) sw_cl6 (show sw_kd 63 = 6 from rfl) ws_X6_find (by omega) (c_X6_find F 2 st c14) rfl rfl (Nat.le_of_ble_eq_true rfl) wm_X6_73 dX6_refused_52 ?_
          refine sw_sub [] rfl ?_
          exact J6 _ _ h
        · have h := ite_F h q13
          refine sw_iconst X (v := 0) (by decide) dX6_refused_46 ?_
          refine sw_goto X 55 (by decide) dX6_refused_47 ?_
          refine sw_sub [] rfl ?_
          exact J6 _ _ h
      · have h := ite_F h q9
        refine sw_aload_n X 0 rfl rfl dX6_refused_20 ?_
        refine sw_iconst X (v := 1) (by decide) dX6_refused_21 ?_
        obtain ⟨r18, s19, c17, h⟩ := bd_E h
        refine sw_callVI X (o := 63) (As := (fun g => [.int 1])) sw_cl6 (show sw_kd 63 = 6 from rfl) ws_X6_find (by omega) (c_X6_find F 1 st c17) rfl rfl (Nat.le_of_ble_eq_true rfl) wm_X6_73 dX6_refused_22 ?_
        refine sw_goto X 55 (by decide) dX6_refused_25 ?_
        refine sw_sub [] rfl ?_
        exact J6 _ _ h
    · have h := ite_T h q7
      refine sw_iconst X (v := (-1)) (by decide) dX6_refused_7 ?_
      refine sw_goto X 55 (by decide) dX6_refused_8 ?_
      refine sw_sub [] rfl ?_
      exact J6 _ _ h
theorem dX6_lay_0 : decode cX6_lay 0 = .ok (.aload_n 0, 1) := by decide +kernel
theorem dX6_lay_1 : decode cX6_lay 1 = .ok (.iload_n 1, 1) := by decide +kernel
theorem dX6_lay_2 : decode cX6_lay 2 = .ok (.iload_n 2, 1) := by decide +kernel
theorem dX6_lay_3 : decode cX6_lay 3 = .ok (.invokevirtual 81, 3) := by decide +kernel
theorem dX6_lay_6 : decode cX6_lay 6 = .ok (.istore 4, 2) := by decide +kernel
theorem dX6_lay_8 : decode cX6_lay 8 = .ok (.iload 4, 2) := by decide +kernel
theorem dX6_lay_10 : decode cX6_lay 10 = .ok (.ifCond .eq 6, 3) := by decide +kernel
theorem dX6_lay_13 : decode cX6_lay 13 = .ok (.iload 4, 2) := by decide +kernel
theorem dX6_lay_15 : decode cX6_lay 15 = .ok (.ireturn, 1) := by decide +kernel
theorem dX6_lay_16 : decode cX6_lay 16 = .ok (.aload_n 0, 1) := by decide +kernel
theorem dX6_lay_17 : decode cX6_lay 17 = .ok (.getfield 25, 3) := by decide +kernel
theorem dX6_lay_20 : decode cX6_lay 20 = .ok (.bipush 40, 2) := by decide +kernel
theorem dX6_lay_22 : decode cX6_lay 22 = .ok (.iload_n 1, 1) := by decide +kernel
theorem dX6_lay_23 : decode cX6_lay 23 = .ok (.imul, 1) := by decide +kernel
theorem dX6_lay_24 : decode cX6_lay 24 = .ok (.iload_n 2, 1) := by decide +kernel
theorem dX6_lay_25 : decode cX6_lay 25 = .ok (.iadd, 1) := by decide +kernel
theorem dX6_lay_26 : decode cX6_lay 26 = .ok (.iaload, 1) := by decide +kernel
theorem dX6_lay_27 : decode cX6_lay 27 = .ok (.istore 5, 2) := by decide +kernel
theorem dX6_lay_29 : decode cX6_lay 29 = .ok (.aload_n 0, 1) := by decide +kernel
theorem dX6_lay_30 : decode cX6_lay 30 = .ok (.getfield 25, 3) := by decide +kernel
theorem dX6_lay_33 : decode cX6_lay 33 = .ok (.bipush 40, 2) := by decide +kernel
theorem dX6_lay_35 : decode cX6_lay 35 = .ok (.iload_n 1, 1) := by decide +kernel
theorem dX6_lay_36 : decode cX6_lay 36 = .ok (.imul, 1) := by decide +kernel
theorem dX6_lay_37 : decode cX6_lay 37 = .ok (.iload_n 2, 1) := by decide +kernel
theorem dX6_lay_38 : decode cX6_lay 38 = .ok (.iadd, 1) := by decide +kernel
theorem dX6_lay_39 : decode cX6_lay 39 = .ok (.iload_n 3, 1) := by decide +kernel
theorem dX6_lay_40 : decode cX6_lay 40 = .ok (.iastore, 1) := by decide +kernel
theorem dX6_lay_41 : decode cX6_lay 41 = .ok (.aload_n 0, 1) := by decide +kernel
theorem dX6_lay_42 : decode cX6_lay 42 = .ok (.iload 5, 2) := by decide +kernel
theorem dX6_lay_44 : decode cX6_lay 44 = .ok (.invokevirtual 85, 3) := by decide +kernel
theorem dX6_lay_47 : decode cX6_lay 47 = .ok (.ireturn, 1) := by decide +kernel
def j_X6_lay (F : Nat) (a1 : Int32) (a2 : Int32) (a3 : Int32) (st : sw_St) : Option (Int32 × sw_St) :=
bd (j_X6_refused F a1 a2 st) (fun (r2 : Int32) (s3 : sw_St) =>
(if r2 = 0 then (
 bnd ((40 * a1) + a2) 240 (
 nm (s3.1 69 (((40 * a1) + a2) : Int32).toNatClampNeg) (fun (x6 : Int32) =>
 bnd ((40 * a1) + a2) 240 (
 nm (sw_setC s3 69 (((40 * a1) + a2) : Int32).toNatClampNeg a3) (fun (s8 : sw_St) =>
 bd (j_X6_tell F x6 s8) (fun (r10 : Int32) (s11 : sw_St) =>
 some ((r10 : Int32), s11)))))))
else (
 some ((r2 : Int32), s3))))
set_option maxHeartbeats 4000000 in
set_option maxRecDepth 100000 in
theorem c_X6_lay (F : Nat) (a1 : Int32) (a2 : Int32) (a3 : Int32) (st : sw_St) {r : Int32} {st1 : sw_St} (h : j_X6_lay F a1 a2 a3 st = some (r, st1)) : sw_CI yX6_lay (.code yX6_lay cX6_lay 6 (some .int)) 4 (fun g => [.ref (g.1 63), .int a1, .int a2, .int a3]) st r st1 := by
  refine sw_entI RX6 (fun g => [(0, .ref (g.1 63)), (1, .int a1), (2, .int a2), (3, .int a3)]) (by decide) rfl (fun _ => Nat.le_of_ble_eq_true rfl) (fun _ => rfl) ?_
  intro p l e s m args below meth c g X hr hlk
  unfold j_X6_lay at h
  refine sw_aload_n X 0 rfl rfl dX6_lay_0 ?_
  refine sw_iload_n X 1 rfl rfl dX6_lay_1 ?_
  refine sw_iload_n X 2 rfl rfl dX6_lay_2 ?_
  obtain ⟨r2, s3, c1, h⟩ := bd_E h
  refine sw_callVI X (o := 63) (As := (fun g => [.int a1, .int a2])) sw_cl6 (show sw_kd 63 = 6 from rfl) ws_X6_refused (by omega) (c_X6_refused F a1 a2 st c1) rfl rfl (Nat.le_of_ble_eq_true rfl) wm_X6_81 dX6_lay_3 ?_
  refine sw_istore X [(4, .int r2), (0, .ref (g.1 63)), (1, .int a1), (2, .int a2), (3, .int a3)] (by decide) rfl dX6_lay_6 ?_
  refine sw_iload X 0 rfl dX6_lay_8 ?_
  refine sw_if_eq X 16 (by decide) dX6_lay_10 (fun q4 => ?_) (fun q4 => ?_)
  · have h := ite_T h q4
    refine sw_aload_n X 1 rfl rfl dX6_lay_16 ?_
    refine sw_getR X sw_cl6 (show sw_kd 63 = 6 from rfl) (k := 6) rfl (by decide) (o1 := 69) rfl wf_X6_25 dX6_lay_17 ?_
    refine sw_bipush X (v := 40) (by decide) dX6_lay_20 ?_
    refine sw_iload_n X 2 rfl rfl dX6_lay_22 ?_
    refine sw_imul X dX6_lay_23 ?_
    refine sw_iload_n X 3 rfl rfl dX6_lay_24 ?_
    refine sw_iadd X dX6_lay_25 ?_
    obtain ⟨q5, h⟩ := bnd_E h
    refine sw_iald X (show sw_kd 69 = 8 from rfl) (n := 240) rfl q5 dX6_lay_26 ?_
    refine sw_topi (fun x6 ex6 => ?_)
    have h := nm_E h ex6
    refine sw_istore X [(5, .int x6), (4, .int r2), (0, .ref (g.1 63)), (1, .int a1), (2, .int a2), (3, .int a3)] (by decide) rfl dX6_lay_27 ?_
    refine sw_aload_n X 2 rfl rfl dX6_lay_29 ?_
    refine sw_getR X sw_cl6 (show sw_kd 63 = 6 from rfl) (k := 6) rfl (by decide) (o1 := 69) rfl wf_X6_25 dX6_lay_30 ?_
    refine sw_bipush X (v := 40) (by decide) dX6_lay_33 ?_
    refine sw_iload_n X 3 rfl rfl dX6_lay_35 ?_
    refine sw_imul X dX6_lay_36 ?_
    refine sw_iload_n X 4 rfl rfl dX6_lay_37 ?_
    refine sw_iadd X dX6_lay_38 ?_
    refine sw_iload_n X 5 rfl rfl dX6_lay_39 ?_
    obtain ⟨q7, h⟩ := bnd_E h
    refine sw_iast X (show sw_kd 69 = 8 from rfl) (n := 240) rfl q7 dX6_lay_40 (fun s8 es8 => ?_)
    have h := nm_E h es8
    refine sw_aload_n X 2 rfl rfl dX6_lay_41 ?_
    refine sw_iload X 0 rfl dX6_lay_42 ?_
    obtain ⟨r10, s11, c9, h⟩ := bd_E h
    refine sw_callVI X (o := 63) (As := (fun g => [.int x6])) sw_cl6 (show sw_kd 63 = 6 from rfl) ws_X6_tell (by omega) (c_X6_tell F x6 s8 c9) rfl rfl (Nat.le_of_ble_eq_true rfl) wm_X6_85 dX6_lay_44 ?_
    exact sw_iret X hr hlk dX6_lay_47 h
  · have h := ite_F h q4
    refine sw_iload X 0 rfl dX6_lay_13 ?_
    exact sw_iret X hr hlk dX6_lay_15 h
theorem dX6_at_0 : decode cX6_at 0 = .ok (.aload_n 0, 1) := by decide +kernel
theorem dX6_at_1 : decode cX6_at 1 = .ok (.iload_n 1, 1) := by decide +kernel
theorem dX6_at_2 : decode cX6_at 2 = .ok (.iload_n 2, 1) := by decide +kernel
theorem dX6_at_3 : decode cX6_at 3 = .ok (.invokevirtual 81, 3) := by decide +kernel
theorem dX6_at_6 : decode cX6_at 6 = .ok (.istore_n 3, 1) := by decide +kernel
theorem dX6_at_7 : decode cX6_at 7 = .ok (.iload_n 3, 1) := by decide +kernel
theorem dX6_at_8 : decode cX6_at 8 = .ok (.ifCond .eq 7, 3) := by decide +kernel
theorem dX6_at_11 : decode cX6_at 11 = .ok (.iload_n 3, 1) := by decide +kernel
theorem dX6_at_12 : decode cX6_at 12 = .ok (.goto 18, 3) := by decide +kernel
theorem dX6_at_15 : decode cX6_at 15 = .ok (.aload_n 0, 1) := by decide +kernel
theorem dX6_at_16 : decode cX6_at 16 = .ok (.aload_n 0, 1) := by decide +kernel
theorem dX6_at_17 : decode cX6_at 17 = .ok (.getfield 25, 3) := by decide +kernel
theorem dX6_at_20 : decode cX6_at 20 = .ok (.bipush 40, 2) := by decide +kernel
theorem dX6_at_22 : decode cX6_at 22 = .ok (.iload_n 1, 1) := by decide +kernel
theorem dX6_at_23 : decode cX6_at 23 = .ok (.imul, 1) := by decide +kernel
theorem dX6_at_24 : decode cX6_at 24 = .ok (.iload_n 2, 1) := by decide +kernel
theorem dX6_at_25 : decode cX6_at 25 = .ok (.iadd, 1) := by decide +kernel
theorem dX6_at_26 : decode cX6_at 26 = .ok (.iaload, 1) := by decide +kernel
theorem dX6_at_27 : decode cX6_at 27 = .ok (.invokevirtual 85, 3) := by decide +kernel
theorem dX6_at_30 : decode cX6_at 30 = .ok (.ireturn, 1) := by decide +kernel
def j_X6_at (F : Nat) (a1 : Int32) (a2 : Int32) (st : sw_St) : Option (Int32 × sw_St) :=
bd (j_X6_refused F a1 a2 st) (fun (r2 : Int32) (s3 : sw_St) =>
jn (fun (x4 : Int32) (s5 : sw_St) => 
  some ((x4 : Int32), s5)) (fun k6 =>
 (if r2 = 0 then (
  bnd ((40 * a1) + a2) 240 (
  bd (j_X6_tell F (s3.1 69 (((40 * a1) + a2) : Int32).toNatClampNeg) s3) (fun (r11 : Int32) (s12 : sw_St) =>
  k6 r11 s12)))
 else (
  k6 r2 s3))))
set_option maxHeartbeats 4000000 in
set_option maxRecDepth 100000 in
theorem c_X6_at (F : Nat) (a1 : Int32) (a2 : Int32) (st : sw_St) {r : Int32} {st1 : sw_St} (h : j_X6_at F a1 a2 st = some (r, st1)) : sw_CI yX6_at (.code yX6_at cX6_at 4 (some .int)) 4 (fun g => [.ref (g.1 63), .int a1, .int a2]) st r st1 := by
  refine sw_entI RX6 (fun g => [(0, .ref (g.1 63)), (1, .int a1), (2, .int a2)]) (by decide) rfl (fun _ => Nat.le_of_ble_eq_true rfl) (fun _ => rfl) ?_
  intro p l e s m args below meth c g X hr hlk
  unfold j_X6_at at h
  refine sw_aload_n X 0 rfl rfl dX6_at_0 ?_
  refine sw_iload_n X 1 rfl rfl dX6_at_1 ?_
  refine sw_iload_n X 2 rfl rfl dX6_at_2 ?_
  obtain ⟨r2, s3, c1, h⟩ := bd_E h
  refine sw_callVI X (o := 63) (As := (fun g => [.int a1, .int a2])) sw_cl6 (show sw_kd 63 = 6 from rfl) ws_X6_refused (by omega) (c_X6_refused F a1 a2 st c1) rfl rfl (Nat.le_of_ble_eq_true rfl) wm_X6_81 dX6_at_3 ?_
  refine sw_istore_n X [(3, .int r2), (0, .ref (g.1 63)), (1, .int a1), (2, .int a2)] rfl (by decide) rfl dX6_at_6 ?_
  refine sw_iload_n X 0 rfl rfl dX6_at_7 ?_
  refine jn2_E (fun (x4 : Int32) (s5 : sw_St) => sw_V p l e 4 s m args below meth c g (sw_A g s.heap.size) (sw_QI below g args s r st1) 4 30 [] [.int x4] s5) h (fun x4 s5 h => ?_) (fun k6 J7 h => ?_)
  · exact sw_iret X hr hlk dX6_at_30 h
  · refine sw_if_eq X 15 (by decide) dX6_at_8 (fun q8 => ?_) (fun q8 => ?_)
    · have h := ite_T h q8
      refine sw_aload_n X 1 rfl rfl dX6_at_15 ?_
      refine sw_aload_n X 1 rfl rfl dX6_at_16 ?_
      refine sw_getR X sw_cl6 (show sw_kd 63 = 6 from rfl) (k := 6) rfl (by decide) (o1 := 69) rfl wf_X6_25 dX6_at_17 ?_
      refine sw_bipush X (v := 40) (by decide) dX6_at_20 ?_
      refine sw_iload_n X 2 rfl rfl dX6_at_22 ?_
      refine sw_imul X dX6_at_23 ?_
      refine sw_iload_n X 3 rfl rfl dX6_at_24 ?_
      refine sw_iadd X dX6_at_25 ?_
      obtain ⟨q9, h⟩ := bnd_E h
      refine sw_iald X (show sw_kd 69 = 8 from rfl) (n := 240) rfl q9 dX6_at_26 ?_
      obtain ⟨r11, s12, c10, h⟩ := bd_E h
      refine sw_callVI X (o := 63) (As := (fun g => [.int (s3.1 69 (((40 * a1) + a2) : Int32).toNatClampNeg)])) sw_cl6 (show sw_kd 63 = 6 from rfl) ws_X6_tell (by omega) (c_X6_tell F (s3.1 69 (((40 * a1) + a2) : Int32).toNatClampNeg) s3 c10) rfl rfl (Nat.le_of_ble_eq_true rfl) wm_X6_85 dX6_at_27 ?_
      refine sw_sub [] rfl ?_
      exact J7 _ _ h
    · have h := ite_F h q8
      refine sw_iload_n X 0 rfl rfl dX6_at_11 ?_
      refine sw_goto X 30 (by decide) dX6_at_12 ?_
      refine sw_sub [] rfl ?_
      exact J7 _ _ h
theorem dX6_tear_0 : decode cX6_tear 0 = .ok (.iload_n 1, 1) := by decide +kernel
theorem dX6_tear_1 : decode cX6_tear 1 = .ok (.invokestatic 69, 3) := by decide +kernel
theorem dX6_tear_4 : decode cX6_tear 4 = .ok (.ifCond .ne 5, 3) := by decide +kernel
theorem dX6_tear_7 : decode cX6_tear 7 = .ok (.iconst (-1), 1) := by decide +kernel
theorem dX6_tear_8 : decode cX6_tear 8 = .ok (.ireturn, 1) := by decide +kernel
theorem dX6_tear_9 : decode cX6_tear 9 = .ok (.aload_n 0, 1) := by decide +kernel
theorem dX6_tear_10 : decode cX6_tear 10 = .ok (.getfield 22, 3) := by decide +kernel
theorem dX6_tear_13 : decode cX6_tear 13 = .ok (.iload_n 1, 1) := by decide +kernel
theorem dX6_tear_14 : decode cX6_tear 14 = .ok (.iaload, 1) := by decide +kernel
theorem dX6_tear_15 : decode cX6_tear 15 = .ok (.ifCond .ge 9, 3) := by decide +kernel
theorem dX6_tear_18 : decode cX6_tear 18 = .ok (.aload_n 0, 1) := by decide +kernel
theorem dX6_tear_19 : decode cX6_tear 19 = .ok (.iconst 1, 1) := by decide +kernel
theorem dX6_tear_20 : decode cX6_tear 20 = .ok (.invokevirtual 73, 3) := by decide +kernel
theorem dX6_tear_23 : decode cX6_tear 23 = .ok (.ireturn, 1) := by decide +kernel
theorem dX6_tear_24 : decode cX6_tear 24 = .ok (.aload_n 0, 1) := by decide +kernel
theorem dX6_tear_25 : decode cX6_tear 25 = .ok (.getfield 22, 3) := by decide +kernel
theorem dX6_tear_28 : decode cX6_tear 28 = .ok (.iload_n 1, 1) := by decide +kernel
theorem dX6_tear_29 : decode cX6_tear 29 = .ok (.iconst (-1), 1) := by decide +kernel
theorem dX6_tear_30 : decode cX6_tear 30 = .ok (.iastore, 1) := by decide +kernel
theorem dX6_tear_31 : decode cX6_tear 31 = .ok (.iconst 1, 1) := by decide +kernel
theorem dX6_tear_32 : decode cX6_tear 32 = .ok (.ireturn, 1) := by decide +kernel
def j_X6_tear (F : Nat) (a1 : Int32) (st : sw_St) : Option (Int32 × sw_St) :=
bo (j_X6_isRow F a1 st) (fun (r2 : Int32) =>
(if r2 = 0 then (
 some (((-1) : Int32), st))
else (
 bnd a1 6 (
 (if 0 ≤ (st.1 68 (a1 : Int32).toNatClampNeg) then (
  bnd a1 6 (
  nm (sw_setC st 68 (a1 : Int32).toNatClampNeg (-1)) (fun (s7 : sw_St) =>
  some ((1 : Int32), s7))))
 else (
  bd (j_X6_find F 1 st) (fun (r9 : Int32) (s10 : sw_St) =>
  some ((r9 : Int32), s10))))))))
set_option maxHeartbeats 4000000 in
set_option maxRecDepth 100000 in
theorem c_X6_tear (F : Nat) (a1 : Int32) (st : sw_St) {r : Int32} {st1 : sw_St} (h : j_X6_tear F a1 st = some (r, st1)) : sw_CI yX6_tear (.code yX6_tear cX6_tear 2 (some .int)) 3 (fun g => [.ref (g.1 63), .int a1]) st r st1 := by
  refine sw_entI RX6 (fun g => [(0, .ref (g.1 63)), (1, .int a1)]) (by decide) rfl (fun _ => Nat.le_of_ble_eq_true rfl) (fun _ => rfl) ?_
  intro p l e s m args below meth c g X hr hlk
  unfold j_X6_tear at h
  refine sw_iload_n X 1 rfl rfl dX6_tear_0 ?_
  obtain ⟨r2, c1, h⟩ := bo_E h
  refine sw_callSI X (As := (fun g => [.int a1])) ws_X6_isRow (by omega) (c_X6_isRow F a1 st c1) rfl rfl (Nat.le_of_ble_eq_true rfl) wm_X6_69 dX6_tear_1 ?_
  refine sw_if_ne X 9 (by decide) dX6_tear_4 (fun q3 => ?_) (fun q3 => ?_)
  · have h := ite_F h q3
    refine sw_aload_n X 0 rfl rfl dX6_tear_9 ?_
    refine sw_getR X sw_cl6 (show sw_kd 63 = 6 from rfl) (k := 5) rfl (by decide) (o1 := 68) rfl wf_X6_22 dX6_tear_10 ?_
    refine sw_iload_n X 1 rfl rfl dX6_tear_13 ?_
    obtain ⟨q4, h⟩ := bnd_E h
    refine sw_iald X (show sw_kd 68 = 8 from rfl) (n := 6) rfl q4 dX6_tear_14 ?_
    refine sw_if_ge X 24 (by decide) dX6_tear_15 (fun q5 => ?_) (fun q5 => ?_)
    · have h := ite_T h q5
      refine sw_aload_n X 0 rfl rfl dX6_tear_24 ?_
      refine sw_getR X sw_cl6 (show sw_kd 63 = 6 from rfl) (k := 5) rfl (by decide) (o1 := 68) rfl wf_X6_22 dX6_tear_25 ?_
      refine sw_iload_n X 1 rfl rfl dX6_tear_28 ?_
      refine sw_iconst X (v := (-1)) (by decide) dX6_tear_29 ?_
      obtain ⟨q6, h⟩ := bnd_E h
      refine sw_iast X (show sw_kd 68 = 8 from rfl) (n := 6) rfl q6 dX6_tear_30 (fun s7 es7 => ?_)
      have h := nm_E h es7
      refine sw_iconst X (v := 1) (by decide) dX6_tear_31 ?_
      exact sw_iret X hr hlk dX6_tear_32 h
    · have h := ite_F h q5
      refine sw_aload_n X 0 rfl rfl dX6_tear_18 ?_
      refine sw_iconst X (v := 1) (by decide) dX6_tear_19 ?_
      obtain ⟨r9, s10, c8, h⟩ := bd_E h
      refine sw_callVI X (o := 63) (As := (fun g => [.int 1])) sw_cl6 (show sw_kd 63 = 6 from rfl) ws_X6_find (by omega) (c_X6_find F 1 st c8) rfl rfl (Nat.le_of_ble_eq_true rfl) wm_X6_73 dX6_tear_20 ?_
      exact sw_iret X hr hlk dX6_tear_23 h
  · have h := ite_T h q3
    refine sw_iconst X (v := (-1)) (by decide) dX6_tear_7 ?_
    exact sw_iret X hr hlk dX6_tear_8 h
theorem dX6_isSpan_0 : decode cX6_isSpan 0 = .ok (.iload_n 2, 1) := by decide +kernel
theorem dX6_isSpan_1 : decode cX6_isSpan 1 = .ok (.ifCond .lt 23, 3) := by decide +kernel
theorem dX6_isSpan_4 : decode cX6_isSpan 4 = .ok (.iload_n 2, 1) := by decide +kernel
theorem dX6_isSpan_5 : decode cX6_isSpan 5 = .ok (.i2l, 1) := by decide +kernel
theorem dX6_isSpan_6 : decode cX6_isSpan 6 = .ok (.iload_n 3, 1) := by decide +kernel
theorem dX6_isSpan_7 : decode cX6_isSpan 7 = .ok (.i2l, 1) := by decide +kernel
theorem dX6_isSpan_8 : decode cX6_isSpan 8 = .ok (.ladd, 1) := by decide +kernel
theorem dX6_isSpan_9 : decode cX6_isSpan 9 = .ok (.aload_n 0, 1) := by decide +kernel
theorem dX6_isSpan_10 : decode cX6_isSpan 10 = .ok (.getfield 22, 3) := by decide +kernel
theorem dX6_isSpan_13 : decode cX6_isSpan 13 = .ok (.iload_n 1, 1) := by decide +kernel
theorem dX6_isSpan_14 : decode cX6_isSpan 14 = .ok (.iaload, 1) := by decide +kernel
theorem dX6_isSpan_15 : decode cX6_isSpan 15 = .ok (.i2l, 1) := by decide +kernel
theorem dX6_isSpan_16 : decode cX6_isSpan 16 = .ok (.lcmp, 1) := by decide +kernel
theorem dX6_isSpan_17 : decode cX6_isSpan 17 = .ok (.ifCond .gt 7, 3) := by decide +kernel
theorem dX6_isSpan_20 : decode cX6_isSpan 20 = .ok (.iconst 1, 1) := by decide +kernel
theorem dX6_isSpan_21 : decode cX6_isSpan 21 = .ok (.goto 4, 3) := by decide +kernel
theorem dX6_isSpan_24 : decode cX6_isSpan 24 = .ok (.iconst 0, 1) := by decide +kernel
theorem dX6_isSpan_25 : decode cX6_isSpan 25 = .ok (.ireturn, 1) := by decide +kernel
def j_X6_isSpan (F : Nat) (a1 : Int32) (a2 : Int32) (a3 : Int32) (st : sw_St) : Option Int32 :=
jn (fun (x1 : Int32) => 
  grd (x1 = 0 ∨ x1 = 1) (some (x1 : Int32))) (fun k2 =>
 jn (
   k2 0) (fun k5 =>
  (if a2 < 0 then (
   k5)
  else (
   bnd a1 6 (
   (if 0 < (lg_cmp (((a2 : Int32).toInt64) + ((a3 : Int32).toInt64)) (((st.1 68 (a1 : Int32).toNatClampNeg) : Int32).toInt64)) then (
    k5)
   else (
    k2 1)))))))
set_option maxHeartbeats 4000000 in
set_option maxRecDepth 100000 in
theorem c_X6_isSpan (F : Nat) (a1 : Int32) (a2 : Int32) (a3 : Int32) (st : sw_St) {r : Int32} (h : j_X6_isSpan F a1 a2 a3 st = some r) : sw_CI yX6_isSpan (.code yX6_isSpan cX6_isSpan 4 (some .boolean)) 1 (fun g => [.ref (g.1 63), .int a1, .int a2, .int a3]) st r st := by
  refine sw_entI RX6 (fun g => [(0, .ref (g.1 63)), (1, .int a1), (2, .int a2), (3, .int a3)]) (by decide) rfl (fun _ => Nat.le_of_ble_eq_true rfl) (fun _ => rfl) ?_
  intro p l e s m args below meth c g X hr hlk
  unfold j_X6_isSpan at h
  refine sw_iload_n X 2 rfl rfl dX6_isSpan_0 ?_
  refine jn1_E (fun (x1 : Int32) => sw_V p l e 1 s m args below meth c g (sw_A g s.heap.size) (sw_QI below g args s r st) 4 25 [] [.int x1] st) h (fun x1 h => ?_) (fun k2 J3 h => ?_)
  · obtain ⟨q4, h⟩ := grd_E h
    exact sw_zret X hr hlk q4 dX6_isSpan_25 (by cases h; rfl)
  · refine jn0_E (sw_V p l e 1 s m args below meth c g (sw_A g s.heap.size) (sw_QI below g args s r st) 4 24 [] [] st) h (fun h => ?_) (fun k5 J6 h => ?_)
    · refine sw_iconst X (v := 0) (by decide) dX6_isSpan_24 ?_
      exact J3 _ h
    · refine sw_if_lt X 24 (by decide) dX6_isSpan_1 (fun q7 => ?_) (fun q7 => ?_)
      · have h := ite_T h q7
        refine sw_sub [] rfl ?_
        exact J6  h
      · have h := ite_F h q7
        refine sw_iload_n X 2 rfl rfl dX6_isSpan_4 ?_
        refine sw_i2l X dX6_isSpan_5 ?_
        refine sw_iload_n X 3 rfl rfl dX6_isSpan_6 ?_
        refine sw_i2l X dX6_isSpan_7 ?_
        refine sw_ladd X dX6_isSpan_8 ?_
        refine sw_aload_n X 0 rfl rfl dX6_isSpan_9 ?_
        refine sw_getR X sw_cl6 (show sw_kd 63 = 6 from rfl) (k := 5) rfl (by decide) (o1 := 68) rfl wf_X6_22 dX6_isSpan_10 ?_
        refine sw_iload_n X 1 rfl rfl dX6_isSpan_13 ?_
        obtain ⟨q8, h⟩ := bnd_E h
        refine sw_iald X (show sw_kd 68 = 8 from rfl) (n := 6) rfl q8 dX6_isSpan_14 ?_
        refine sw_i2l X dX6_isSpan_15 ?_
        refine sw_lcmp X dX6_isSpan_16 ?_
        refine sw_if_gt X 24 (by decide) dX6_isSpan_17 (fun q9 => ?_) (fun q9 => ?_)
        · have h := ite_T h q9
          refine sw_sub [] rfl ?_
          exact J6  h
        · have h := ite_F h q9
          refine sw_iconst X (v := 1) (by decide) dX6_isSpan_20 ?_
          refine sw_goto X 25 (by decide) dX6_isSpan_21 ?_
          refine sw_sub [] rfl ?_
          exact J3 _ h
theorem dX6_copy_0 : decode cX6_copy 0 = .ok (.iload_n 1, 1) := by decide +kernel
theorem dX6_copy_1 : decode cX6_copy 1 = .ok (.invokestatic 69, 3) := by decide +kernel
theorem dX6_copy_4 : decode cX6_copy 4 = .ok (.ifCond .eq 10, 3) := by decide +kernel
theorem dX6_copy_7 : decode cX6_copy 7 = .ok (.iload_n 3, 1) := by decide +kernel
theorem dX6_copy_8 : decode cX6_copy 8 = .ok (.invokestatic 69, 3) := by decide +kernel
theorem dX6_copy_11 : decode cX6_copy 11 = .ok (.ifCond .ne 5, 3) := by decide +kernel
theorem dX6_copy_14 : decode cX6_copy 14 = .ok (.iconst (-1), 1) := by decide +kernel
theorem dX6_copy_15 : decode cX6_copy 15 = .ok (.ireturn, 1) := by decide +kernel
theorem dX6_copy_16 : decode cX6_copy 16 = .ok (.iload 5, 2) := by decide +kernel
theorem dX6_copy_18 : decode cX6_copy 18 = .ok (.ifCond .ge 9, 3) := by decide +kernel
theorem dX6_copy_21 : decode cX6_copy 21 = .ok (.aload_n 0, 1) := by decide +kernel
theorem dX6_copy_22 : decode cX6_copy 22 = .ok (.iconst 5, 1) := by decide +kernel
theorem dX6_copy_23 : decode cX6_copy 23 = .ok (.invokevirtual 73, 3) := by decide +kernel
theorem dX6_copy_26 : decode cX6_copy 26 = .ok (.ireturn, 1) := by decide +kernel
theorem dX6_copy_27 : decode cX6_copy 27 = .ok (.aload_n 0, 1) := by decide +kernel
theorem dX6_copy_28 : decode cX6_copy 28 = .ok (.getfield 22, 3) := by decide +kernel
theorem dX6_copy_31 : decode cX6_copy 31 = .ok (.iload_n 1, 1) := by decide +kernel
theorem dX6_copy_32 : decode cX6_copy 32 = .ok (.iaload, 1) := by decide +kernel
theorem dX6_copy_33 : decode cX6_copy 33 = .ok (.ifCond .lt 12, 3) := by decide +kernel
theorem dX6_copy_36 : decode cX6_copy 36 = .ok (.aload_n 0, 1) := by decide +kernel
theorem dX6_copy_37 : decode cX6_copy 37 = .ok (.getfield 22, 3) := by decide +kernel
theorem dX6_copy_40 : decode cX6_copy 40 = .ok (.iload_n 3, 1) := by decide +kernel
theorem dX6_copy_41 : decode cX6_copy 41 = .ok (.iaload, 1) := by decide +kernel
theorem dX6_copy_42 : decode cX6_copy 42 = .ok (.ifCond .ge 9, 3) := by decide +kernel
theorem dX6_copy_45 : decode cX6_copy 45 = .ok (.aload_n 0, 1) := by decide +kernel
theorem dX6_copy_46 : decode cX6_copy 46 = .ok (.iconst 1, 1) := by decide +kernel
theorem dX6_copy_47 : decode cX6_copy 47 = .ok (.invokevirtual 73, 3) := by decide +kernel
theorem dX6_copy_50 : decode cX6_copy 50 = .ok (.ireturn, 1) := by decide +kernel
theorem dX6_copy_51 : decode cX6_copy 51 = .ok (.aload_n 0, 1) := by decide +kernel
theorem dX6_copy_52 : decode cX6_copy 52 = .ok (.iload_n 1, 1) := by decide +kernel
theorem dX6_copy_53 : decode cX6_copy 53 = .ok (.iload_n 2, 1) := by decide +kernel
theorem dX6_copy_54 : decode cX6_copy 54 = .ok (.iload 5, 2) := by decide +kernel
theorem dX6_copy_56 : decode cX6_copy 56 = .ok (.invokevirtual 88, 3) := by decide +kernel
theorem dX6_copy_59 : decode cX6_copy 59 = .ok (.ifCond .eq 15, 3) := by decide +kernel
theorem dX6_copy_62 : decode cX6_copy 62 = .ok (.aload_n 0, 1) := by decide +kernel
theorem dX6_copy_63 : decode cX6_copy 63 = .ok (.iload_n 3, 1) := by decide +kernel
theorem dX6_copy_64 : decode cX6_copy 64 = .ok (.iload 4, 2) := by decide +kernel
theorem dX6_copy_66 : decode cX6_copy 66 = .ok (.iload 5, 2) := by decide +kernel
theorem dX6_copy_68 : decode cX6_copy 68 = .ok (.invokevirtual 88, 3) := by decide +kernel
theorem dX6_copy_71 : decode cX6_copy 71 = .ok (.ifCond .ne 9, 3) := by decide +kernel
theorem dX6_copy_74 : decode cX6_copy 74 = .ok (.aload_n 0, 1) := by decide +kernel
theorem dX6_copy_75 : decode cX6_copy 75 = .ok (.iconst 2, 1) := by decide +kernel
theorem dX6_copy_76 : decode cX6_copy 76 = .ok (.invokevirtual 73, 3) := by decide +kernel
theorem dX6_copy_79 : decode cX6_copy 79 = .ok (.ireturn, 1) := by decide +kernel
theorem dX6_copy_80 : decode cX6_copy 80 = .ok (.iload_n 2, 1) := by decide +kernel
theorem dX6_copy_81 : decode cX6_copy 81 = .ok (.iload 4, 2) := by decide +kernel
theorem dX6_copy_83 : decode cX6_copy 83 = .ok (.if_icmp .ge 7, 3) := by decide +kernel
theorem dX6_copy_86 : decode cX6_copy 86 = .ok (.iconst 1, 1) := by decide +kernel
theorem dX6_copy_87 : decode cX6_copy 87 = .ok (.goto 4, 3) := by decide +kernel
theorem dX6_copy_90 : decode cX6_copy 90 = .ok (.iconst 0, 1) := by decide +kernel
theorem dX6_copy_91 : decode cX6_copy 91 = .ok (.istore 6, 2) := by decide +kernel
theorem dX6_copy_93 : decode cX6_copy 93 = .ok (.iconst 0, 1) := by decide +kernel
theorem dX6_copy_94 : decode cX6_copy 94 = .ok (.istore 7, 2) := by decide +kernel
theorem dX6_copy_96 : decode cX6_copy 96 = .ok (.iload 7, 2) := by decide +kernel
theorem dX6_copy_98 : decode cX6_copy 98 = .ok (.iload 5, 2) := by decide +kernel
theorem dX6_copy_100 : decode cX6_copy 100 = .ok (.if_icmp .ge 57, 3) := by decide +kernel
theorem dX6_copy_103 : decode cX6_copy 103 = .ok (.iload 6, 2) := by decide +kernel
theorem dX6_copy_105 : decode cX6_copy 105 = .ok (.ifCond .eq 13, 3) := by decide +kernel
theorem dX6_copy_108 : decode cX6_copy 108 = .ok (.iload 5, 2) := by decide +kernel
theorem dX6_copy_110 : decode cX6_copy 110 = .ok (.iconst 1, 1) := by decide +kernel
theorem dX6_copy_111 : decode cX6_copy 111 = .ok (.isub, 1) := by decide +kernel
theorem dX6_copy_112 : decode cX6_copy 112 = .ok (.iload 7, 2) := by decide +kernel
theorem dX6_copy_114 : decode cX6_copy 114 = .ok (.isub, 1) := by decide +kernel
theorem dX6_copy_115 : decode cX6_copy 115 = .ok (.goto 5, 3) := by decide +kernel
theorem dX6_copy_118 : decode cX6_copy 118 = .ok (.iload 7, 2) := by decide +kernel
theorem dX6_copy_120 : decode cX6_copy 120 = .ok (.istore 8, 2) := by decide +kernel
theorem dX6_copy_122 : decode cX6_copy 122 = .ok (.aload_n 0, 1) := by decide +kernel
theorem dX6_copy_123 : decode cX6_copy 123 = .ok (.getfield 25, 3) := by decide +kernel
theorem dX6_copy_126 : decode cX6_copy 126 = .ok (.bipush 40, 2) := by decide +kernel
theorem dX6_copy_128 : decode cX6_copy 128 = .ok (.iload_n 3, 1) := by decide +kernel
theorem dX6_copy_129 : decode cX6_copy 129 = .ok (.imul, 1) := by decide +kernel
theorem dX6_copy_130 : decode cX6_copy 130 = .ok (.iload 4, 2) := by decide +kernel
theorem dX6_copy_132 : decode cX6_copy 132 = .ok (.iadd, 1) := by decide +kernel
theorem dX6_copy_133 : decode cX6_copy 133 = .ok (.iload 8, 2) := by decide +kernel
theorem dX6_copy_135 : decode cX6_copy 135 = .ok (.iadd, 1) := by decide +kernel
theorem dX6_copy_136 : decode cX6_copy 136 = .ok (.aload_n 0, 1) := by decide +kernel
theorem dX6_copy_137 : decode cX6_copy 137 = .ok (.getfield 25, 3) := by decide +kernel
theorem dX6_copy_140 : decode cX6_copy 140 = .ok (.bipush 40, 2) := by decide +kernel
theorem dX6_copy_142 : decode cX6_copy 142 = .ok (.iload_n 1, 1) := by decide +kernel
theorem dX6_copy_143 : decode cX6_copy 143 = .ok (.imul, 1) := by decide +kernel
theorem dX6_copy_144 : decode cX6_copy 144 = .ok (.iload_n 2, 1) := by decide +kernel
theorem dX6_copy_145 : decode cX6_copy 145 = .ok (.iadd, 1) := by decide +kernel
theorem dX6_copy_146 : decode cX6_copy 146 = .ok (.iload 8, 2) := by decide +kernel
theorem dX6_copy_148 : decode cX6_copy 148 = .ok (.iadd, 1) := by decide +kernel
theorem dX6_copy_149 : decode cX6_copy 149 = .ok (.iaload, 1) := by decide +kernel
theorem dX6_copy_150 : decode cX6_copy 150 = .ok (.iastore, 1) := by decide +kernel
theorem dX6_copy_151 : decode cX6_copy 151 = .ok (.iinc 7 1, 3) := by decide +kernel
theorem dX6_copy_154 : decode cX6_copy 154 = .ok (.goto (-58), 3) := by decide +kernel
theorem dX6_copy_157 : decode cX6_copy 157 = .ok (.iconst 1, 1) := by decide +kernel
theorem dX6_copy_158 : decode cX6_copy 158 = .ok (.ireturn, 1) := by decide +kernel
def j_X6_copy (F : Nat) (a1 : Int32) (a2 : Int32) (a3 : Int32) (a4 : Int32) (a5 : Int32) (st : sw_St) : Option (Int32 × sw_St) :=
bo (j_X6_isRow F a1 st) (fun (r2 : Int32) =>
jn (
  some (((-1) : Int32), st)) (fun k3 =>
 (if r2 = 0 then (
  k3)
 else (
  bo (j_X6_isRow F a3 st) (fun (r7 : Int32) =>
  (if r7 = 0 then (
   k3)
  else (
   (if 0 ≤ a5 then (
    bnd a1 6 (
    jn (
      bd (j_X6_find F 1 st) (fun (r14 : Int32) (s15 : sw_St) =>
      some ((r14 : Int32), s15))) (fun k11 =>
     (if (st.1 68 (a1 : Int32).toNatClampNeg) < 0 then (
      k11)
     else (
      bnd a3 6 (
      (if 0 ≤ (st.1 68 (a3 : Int32).toNatClampNeg) then (
       bo (j_X6_isSpan F a1 a2 a5 st) (fun (r20 : Int32) =>
       jn (
         bd (j_X6_find F 2 st) (fun (r24 : Int32) (s25 : sw_St) =>
         some ((r24 : Int32), s25))) (fun k21 =>
        (if r20 = 0 then (
         k21)
        else (
         bo (j_X6_isSpan F a3 a4 a5 st) (fun (r28 : Int32) =>
         (if r28 = 0 then (
          k21)
         else (
          jn (fun (x30 : Int32) => 
            lz2 (fun f35 (x33 : Int32) (s34 : sw_St) =>
             (if a5 ≤ x33 then (
              some ((1 : Int32), s34))
             else (
              jn (fun (x38 : Int32) => 
                bnd (((40 * a1) + a2) + x38) 240 (
                bnd (((40 * a3) + a4) + x38) 240 (
                nm (sw_setC s34 69 ((((40 * a3) + a4) + x38) : Int32).toNatClampNeg (s34.1 69 ((((40 * a1) + a2) + x38) : Int32).toNatClampNeg)) (fun (s43 : sw_St) =>
                nm (x33 + 1) (fun (x44 : Int32) =>
                f35 x44 s43))))) (fun k39 =>
               (if x30 = 0 then (
                k39 x33)
               else (
                k39 ((a5 - 1) - x33))))))) F 0 st) (fun k31 =>
           (if a4 ≤ a2 then (
            k31 0)
           else (
            k31 1)))))))))))
      else (
       k11))))))))
   else (
    bd (j_X6_find F 5 st) (fun (r48 : Int32) (s49 : sw_St) =>
    some ((r48 : Int32), s49)))))))))))
set_option maxHeartbeats 4000000 in
set_option maxRecDepth 100000 in
theorem c_X6_copy (F : Nat) (a1 : Int32) (a2 : Int32) (a3 : Int32) (a4 : Int32) (a5 : Int32) (st : sw_St) {r : Int32} {st1 : sw_St} (h : j_X6_copy F a1 a2 a3 a4 a5 st = some (r, st1)) : sw_CI yX6_copy (.code yX6_copy cX6_copy 9 (some .int)) 3 (fun g => [.ref (g.1 63), .int a1, .int a2, .int a3, .int a4, .int a5]) st r st1 := by
  refine sw_entI RX6 (fun g => [(0, .ref (g.1 63)), (1, .int a1), (2, .int a2), (3, .int a3), (4, .int a4), (5, .int a5)]) (by decide) rfl (fun _ => Nat.le_of_ble_eq_true rfl) (fun _ => rfl) ?_
  intro p l e s m args below meth c g X hr hlk
  unfold j_X6_copy at h
  refine sw_iload_n X 1 rfl rfl dX6_copy_0 ?_
  obtain ⟨r2, c1, h⟩ := bo_E h
  refine sw_callSI X (As := (fun g => [.int a1])) ws_X6_isRow (by omega) (c_X6_isRow F a1 st c1) rfl rfl (Nat.le_of_ble_eq_true rfl) wm_X6_69 dX6_copy_1 ?_
  refine jn0_E (sw_V p l e 3 s m args below meth c g (sw_A g s.heap.size) (sw_QI below g args s r st1) 9 14 [] [] st) h (fun h => ?_) (fun k3 J4 h => ?_)
  · refine sw_iconst X (v := (-1)) (by decide) dX6_copy_14 ?_
    exact sw_iret X hr hlk dX6_copy_15 h
  · refine sw_if_eq X 14 (by decide) dX6_copy_4 (fun q5 => ?_) (fun q5 => ?_)
    · have h := ite_T h q5
      refine sw_sub [] rfl ?_
      exact J4  h
    · have h := ite_F h q5
      refine sw_iload_n X 3 rfl rfl dX6_copy_7 ?_
      obtain ⟨r7, c6, h⟩ := bo_E h
      refine sw_callSI X (As := (fun g => [.int a3])) ws_X6_isRow (by omega) (c_X6_isRow F a3 st c6) rfl rfl (Nat.le_of_ble_eq_true rfl) wm_X6_69 dX6_copy_8 ?_
      refine sw_if_ne X 16 (by decide) dX6_copy_11 (fun q8 => ?_) (fun q8 => ?_)
      · have h := ite_F h q8
        refine sw_iload X 5 rfl dX6_copy_16 ?_
        refine sw_if_ge X 27 (by decide) dX6_copy_18 (fun q9 => ?_) (fun q9 => ?_)
        · have h := ite_T h q9
          refine sw_aload_n X 0 rfl rfl dX6_copy_27 ?_
          refine sw_getR X sw_cl6 (show sw_kd 63 = 6 from rfl) (k := 5) rfl (by decide) (o1 := 68) rfl wf_X6_22 dX6_copy_28 ?_
          refine sw_iload_n X 1 rfl rfl dX6_copy_31 ?_
          obtain ⟨q10, h⟩ := bnd_E h
          refine sw_iald X (show sw_kd 68 = 8 from rfl) (n := 6) rfl q10 dX6_copy_32 ?_
          refine jn0_E (sw_V p l e 3 s m args below meth c g (sw_A g s.heap.size) (sw_QI below g args s r st1) 9 45 [(0, .ref (g.1 63))] [] st) h (fun h => ?_) (fun k11 J12 h => ?_)
          · refine sw_aload_n X 0 rfl rfl dX6_copy_45 ?_
            refine sw_iconst X (v := 1) (by decide) dX6_copy_46 ?_
            obtain ⟨r14, s15, c13, h⟩ := bd_E h
            refine sw_callVI X (o := 63) (As := (fun g => [.int 1])) sw_cl6 (show sw_kd 63 = 6 from rfl) ws_X6_find (by omega) (c_X6_find F 1 st c13) rfl rfl (Nat.le_of_ble_eq_true rfl) wm_X6_73 dX6_copy_47 ?_
            exact sw_iret X hr hlk dX6_copy_50 h
          · refine sw_if_lt X 45 (by decide) dX6_copy_33 (fun q16 => ?_) (fun q16 => ?_)
            · have h := ite_T h q16
              refine sw_sub [0] rfl ?_
              exact J12  h
            · have h := ite_F h q16
              refine sw_aload_n X 0 rfl rfl dX6_copy_36 ?_
              refine sw_getR X sw_cl6 (show sw_kd 63 = 6 from rfl) (k := 5) rfl (by decide) (o1 := 68) rfl wf_X6_22 dX6_copy_37 ?_
              refine sw_iload_n X 3 rfl rfl dX6_copy_40 ?_
              obtain ⟨q17, h⟩ := bnd_E h
              refine sw_iald X (show sw_kd 68 = 8 from rfl) (n := 6) rfl q17 dX6_copy_41 ?_
              refine sw_if_ge X 51 (by decide) dX6_copy_42 (fun q18 => ?_) (fun q18 => ?_)
              · have h := ite_T h q18
                refine sw_aload_n X 0 rfl rfl dX6_copy_51 ?_
                refine sw_iload_n X 1 rfl rfl dX6_copy_52 ?_
                refine sw_iload_n X 2 rfl rfl dX6_copy_53 ?_
                refine sw_iload X 5 rfl dX6_copy_54 ?_
                obtain ⟨r20, c19, h⟩ := bo_E h
                refine sw_callVI X (o := 63) (As := (fun g => [.int a1, .int a2, .int a5])) sw_cl6 (show sw_kd 63 = 6 from rfl) ws_X6_isSpan (by omega) (c_X6_isSpan F a1 a2 a5 st c19) rfl rfl (Nat.le_of_ble_eq_true rfl) wm_X6_88 dX6_copy_56 ?_
                refine jn0_E (sw_V p l e 3 s m args below meth c g (sw_A g s.heap.size) (sw_QI below g args s r st1) 9 74 [(0, .ref (g.1 63))] [] st) h (fun h => ?_) (fun k21 J22 h => ?_)
                · refine sw_aload_n X 0 rfl rfl dX6_copy_74 ?_
                  refine sw_iconst X (v := 2) (by decide) dX6_copy_75 ?_
                  obtain ⟨r24, s25, c23, h⟩ := bd_E h
                  refine sw_callVI X (o := 63) (As := (fun g => [.int 2])) sw_cl6 (show sw_kd 63 = 6 from rfl) ws_X6_find (by omega) (c_X6_find F 2 st c23) rfl rfl (Nat.le_of_ble_eq_true rfl) wm_X6_73 dX6_copy_76 ?_
                  exact sw_iret X hr hlk dX6_copy_79 h
                · refine sw_if_eq X 74 (by decide) dX6_copy_59 (fun q26 => ?_) (fun q26 => ?_)
                  · have h := ite_T h q26
                    refine sw_sub [0] rfl ?_
                    exact J22  h
                  · have h := ite_F h q26
                    refine sw_aload_n X 0 rfl rfl dX6_copy_62 ?_
                    refine sw_iload_n X 3 rfl rfl dX6_copy_63 ?_
                    refine sw_iload X 4 rfl dX6_copy_64 ?_
                    refine sw_iload X 5 rfl dX6_copy_66 ?_
                    obtain ⟨r28, c27, h⟩ := bo_E h
                    refine sw_callVI X (o := 63) (As := (fun g => [.int a3, .int a4, .int a5])) sw_cl6 (show sw_kd 63 = 6 from rfl) ws_X6_isSpan (by omega) (c_X6_isSpan F a3 a4 a5 st c27) rfl rfl (Nat.le_of_ble_eq_true rfl) wm_X6_88 dX6_copy_68 ?_
                    refine sw_if_ne X 80 (by decide) dX6_copy_71 (fun q29 => ?_) (fun q29 => ?_)
                    · have h := ite_F h q29
                      refine sw_iload_n X 2 rfl rfl dX6_copy_80 ?_
                      refine sw_iload X 4 rfl dX6_copy_81 ?_
                      refine jn1_E (fun (x30 : Int32) => sw_V p l e 3 s m args below meth c g (sw_A g s.heap.size) (sw_QI below g args s r st1) 9 91 [(0, .ref (g.1 63)), (1, .int a1), (2, .int a2), (3, .int a3), (4, .int a4), (5, .int a5)] [.int x30] st) h (fun x30 h => ?_) (fun k31 J32 h => ?_)
                      · refine sw_istore X [(6, .int x30), (0, .ref (g.1 63)), (1, .int a1), (2, .int a2), (3, .int a3), (4, .int a4), (5, .int a5)] (by decide) rfl dX6_copy_91 ?_
                        refine sw_iconst X (v := 0) (by decide) dX6_copy_93 ?_
                        refine sw_istore X [(7, .int 0), (6, .int x30), (0, .ref (g.1 63)), (1, .int a1), (2, .int a2), (3, .int a3), (4, .int a4), (5, .int a5)] (by decide) rfl dX6_copy_94 ?_
                        refine sw_sub [2, 3, 4, 5, 6, 7, 1, 0] rfl ?_
                        refine lz2_E (fun (x33 : Int32) (s34 : sw_St) => sw_V p l e 3 s m args below meth c g (sw_A g s.heap.size) (sw_QI below g args s r st1) 9 96 [(0, .ref (g.1 63)), (1, .int a1), (2, .int a2), (3, .int a3), (4, .int a4), (5, .int a5), (6, .int x30), (7, .int x33)] [] s34) h (fun f35 ih36 x33 s34 h => ?_)
                        refine sw_iload X 7 rfl dX6_copy_96 ?_
                        refine sw_iload X 5 rfl dX6_copy_98 ?_
                        refine sw_icmp_ge X 157 (by decide) dX6_copy_100 (fun q37 => ?_) (fun q37 => ?_)
                        · have h := ite_T h q37
                          refine sw_iconst X (v := 1) (by decide) dX6_copy_157 ?_
                          exact sw_iret X hr hlk dX6_copy_158 h
                        · have h := ite_F h q37
                          refine sw_iload X 6 rfl dX6_copy_103 ?_
                          refine jn1_E (fun (x38 : Int32) => sw_V p l e 3 s m args below meth c g (sw_A g s.heap.size) (sw_QI below g args s r st1) 9 120 [(0, .ref (g.1 63)), (1, .int a1), (2, .int a2), (3, .int a3), (4, .int a4), (5, .int a5), (6, .int x30), (7, .int x33)] [.int x38] s34) h (fun x38 h => ?_) (fun k39 J40 h => ?_)
                          · refine sw_istore X [(8, .int x38), (0, .ref (g.1 63)), (1, .int a1), (2, .int a2), (3, .int a3), (4, .int a4), (5, .int a5), (6, .int x30), (7, .int x33)] (by decide) rfl dX6_copy_120 ?_
                            refine sw_aload_n X 1 rfl rfl dX6_copy_122 ?_
                            refine sw_getR X sw_cl6 (show sw_kd 63 = 6 from rfl) (k := 6) rfl (by decide) (o1 := 69) rfl wf_X6_25 dX6_copy_123 ?_
                            refine sw_bipush X (v := 40) (by decide) dX6_copy_126 ?_
                            refine sw_iload_n X 4 rfl rfl dX6_copy_128 ?_
                            refine sw_imul X dX6_copy_129 ?_
                            refine sw_iload X 5 rfl dX6_copy_130 ?_
                            refine sw_iadd X dX6_copy_132 ?_
                            refine sw_iload X 0 rfl dX6_copy_133 ?_
                            refine sw_iadd X dX6_copy_135 ?_
                            refine sw_aload_n X 1 rfl rfl dX6_copy_136 ?_
                            refine sw_getR X sw_cl6 (show sw_kd 63 = 6 from rfl) (k := 6) rfl (by decide) (o1 := 69) rfl wf_X6_25 dX6_copy_137 ?_
                            refine sw_bipush X (v := 40) (by decide) dX6_copy_140 ?_
                            refine sw_iload_n X 2 rfl rfl dX6_copy_142 ?_
                            refine sw_imul X dX6_copy_143 ?_
                            refine sw_iload_n X 3 rfl rfl dX6_copy_144 ?_
                            refine sw_iadd X dX6_copy_145 ?_
                            refine sw_iload X 0 rfl dX6_copy_146 ?_
                            refine sw_iadd X dX6_copy_148 ?_
                            obtain ⟨q41, h⟩ := bnd_E h
                            refine sw_iald X (show sw_kd 69 = 8 from rfl) (n := 240) rfl q41 dX6_copy_149 ?_
                            obtain ⟨q42, h⟩ := bnd_E h
                            refine sw_iast X (show sw_kd 69 = 8 from rfl) (n := 240) rfl q42 dX6_copy_150 (fun s43 es43 => ?_)
                            have h := nm_E h es43
                            obtain ⟨x44, ex44⟩ : ∃ y : Int32, y = x33 + 1 := ⟨_, rfl⟩
                            have h := nm_E h ex44
                            refine sw_iinc X 8 x44 [(7, .int x44), (8, .int x38), (0, .ref (g.1 63)), (1, .int a1), (2, .int a2), (3, .int a3), (4, .int a4), (5, .int a5), (6, .int x30)] rfl (by rw [ex44]; rfl) (by decide) rfl dX6_copy_151 ?_
                            refine sw_goto X 96 (by decide) dX6_copy_154 ?_
                            refine sw_sub [2, 3, 4, 5, 6, 7, 8, 0] rfl ?_
                            exact ih36 _ _ h
                          · refine sw_if_eq X 118 (by decide) dX6_copy_105 (fun q45 => ?_) (fun q45 => ?_)
                            · have h := ite_T h q45
                              refine sw_iload X 7 rfl dX6_copy_118 ?_
                              exact J40 _ h
                            · have h := ite_F h q45
                              refine sw_iload X 5 rfl dX6_copy_108 ?_
                              refine sw_iconst X (v := 1) (by decide) dX6_copy_110 ?_
                              refine sw_isub X dX6_copy_111 ?_
                              refine sw_iload X 7 rfl dX6_copy_112 ?_
                              refine sw_isub X dX6_copy_114 ?_
                              refine sw_goto X 120 (by decide) dX6_copy_115 ?_
                              exact J40 _ h
                      · refine sw_icmp_ge X 90 (by decide) dX6_copy_83 (fun q46 => ?_) (fun q46 => ?_)
                        · have h := ite_T h q46
                          refine sw_iconst X (v := 0) (by decide) dX6_copy_90 ?_
                          exact J32 _ h
                        · have h := ite_F h q46
                          refine sw_iconst X (v := 1) (by decide) dX6_copy_86 ?_
                          refine sw_goto X 91 (by decide) dX6_copy_87 ?_
                          exact J32 _ h
                    · have h := ite_T h q29
                      refine sw_sub [0] rfl ?_
                      exact J22  h
              · have h := ite_F h q18
                refine sw_sub [0] rfl ?_
                exact J12  h
        · have h := ite_F h q9
          refine sw_aload_n X 0 rfl rfl dX6_copy_21 ?_
          refine sw_iconst X (v := 5) (by decide) dX6_copy_22 ?_
          obtain ⟨r48, s49, c47, h⟩ := bd_E h
          refine sw_callVI X (o := 63) (As := (fun g => [.int 5])) sw_cl6 (show sw_kd 63 = 6 from rfl) ws_X6_find (by omega) (c_X6_find F 5 st c47) rfl rfl (Nat.le_of_ble_eq_true rfl) wm_X6_73 dX6_copy_23 ?_
          exact sw_iret X hr hlk dX6_copy_26 h
      · have h := ite_T h q8
        refine sw_sub [] rfl ?_
        exact J4  h
theorem dX6_mean_0 : decode cX6_mean 0 = .ok (.iload_n 1, 1) := by decide +kernel
theorem dX6_mean_1 : decode cX6_mean 1 = .ok (.invokestatic 69, 3) := by decide +kernel
theorem dX6_mean_4 : decode cX6_mean 4 = .ok (.ifCond .ne 5, 3) := by decide +kernel
theorem dX6_mean_7 : decode cX6_mean 7 = .ok (.iconst (-1), 1) := by decide +kernel
theorem dX6_mean_8 : decode cX6_mean 8 = .ok (.ireturn, 1) := by decide +kernel
theorem dX6_mean_9 : decode cX6_mean 9 = .ok (.aload_n 0, 1) := by decide +kernel
theorem dX6_mean_10 : decode cX6_mean 10 = .ok (.getfield 22, 3) := by decide +kernel
theorem dX6_mean_13 : decode cX6_mean 13 = .ok (.iload_n 1, 1) := by decide +kernel
theorem dX6_mean_14 : decode cX6_mean 14 = .ok (.iaload, 1) := by decide +kernel
theorem dX6_mean_15 : decode cX6_mean 15 = .ok (.ifCond .ge 9, 3) := by decide +kernel
theorem dX6_mean_18 : decode cX6_mean 18 = .ok (.aload_n 0, 1) := by decide +kernel
theorem dX6_mean_19 : decode cX6_mean 19 = .ok (.iconst 1, 1) := by decide +kernel
theorem dX6_mean_20 : decode cX6_mean 20 = .ok (.invokevirtual 73, 3) := by decide +kernel
theorem dX6_mean_23 : decode cX6_mean 23 = .ok (.ireturn, 1) := by decide +kernel
theorem dX6_mean_24 : decode cX6_mean 24 = .ok (.aload_n 0, 1) := by decide +kernel
theorem dX6_mean_25 : decode cX6_mean 25 = .ok (.getfield 22, 3) := by decide +kernel
theorem dX6_mean_28 : decode cX6_mean 28 = .ok (.iload_n 1, 1) := by decide +kernel
theorem dX6_mean_29 : decode cX6_mean 29 = .ok (.iaload, 1) := by decide +kernel
theorem dX6_mean_30 : decode cX6_mean 30 = .ok (.ifCond .ne 9, 3) := by decide +kernel
theorem dX6_mean_33 : decode cX6_mean 33 = .ok (.aload_n 0, 1) := by decide +kernel
theorem dX6_mean_34 : decode cX6_mean 34 = .ok (.iconst 4, 1) := by decide +kernel
theorem dX6_mean_35 : decode cX6_mean 35 = .ok (.invokevirtual 73, 3) := by decide +kernel
theorem dX6_mean_38 : decode cX6_mean 38 = .ok (.ireturn, 1) := by decide +kernel
theorem dX6_mean_39 : decode cX6_mean 39 = .ok (.lconst 0, 1) := by decide +kernel
theorem dX6_mean_40 : decode cX6_mean 40 = .ok (.lstore_n 2, 1) := by decide +kernel
theorem dX6_mean_41 : decode cX6_mean 41 = .ok (.iconst 0, 1) := by decide +kernel
theorem dX6_mean_42 : decode cX6_mean 42 = .ok (.istore 4, 2) := by decide +kernel
theorem dX6_mean_44 : decode cX6_mean 44 = .ok (.iload 4, 2) := by decide +kernel
theorem dX6_mean_46 : decode cX6_mean 46 = .ok (.aload_n 0, 1) := by decide +kernel
theorem dX6_mean_47 : decode cX6_mean 47 = .ok (.getfield 22, 3) := by decide +kernel
theorem dX6_mean_50 : decode cX6_mean 50 = .ok (.iload_n 1, 1) := by decide +kernel
theorem dX6_mean_51 : decode cX6_mean 51 = .ok (.iaload, 1) := by decide +kernel
theorem dX6_mean_52 : decode cX6_mean 52 = .ok (.if_icmp .ge 25, 3) := by decide +kernel
theorem dX6_mean_55 : decode cX6_mean 55 = .ok (.lload_n 2, 1) := by decide +kernel
theorem dX6_mean_56 : decode cX6_mean 56 = .ok (.aload_n 0, 1) := by decide +kernel
theorem dX6_mean_57 : decode cX6_mean 57 = .ok (.getfield 25, 3) := by decide +kernel
theorem dX6_mean_60 : decode cX6_mean 60 = .ok (.bipush 40, 2) := by decide +kernel
theorem dX6_mean_62 : decode cX6_mean 62 = .ok (.iload_n 1, 1) := by decide +kernel
theorem dX6_mean_63 : decode cX6_mean 63 = .ok (.imul, 1) := by decide +kernel
theorem dX6_mean_64 : decode cX6_mean 64 = .ok (.iload 4, 2) := by decide +kernel
theorem dX6_mean_66 : decode cX6_mean 66 = .ok (.iadd, 1) := by decide +kernel
theorem dX6_mean_67 : decode cX6_mean 67 = .ok (.iaload, 1) := by decide +kernel
theorem dX6_mean_68 : decode cX6_mean 68 = .ok (.i2l, 1) := by decide +kernel
theorem dX6_mean_69 : decode cX6_mean 69 = .ok (.ladd, 1) := by decide +kernel
theorem dX6_mean_70 : decode cX6_mean 70 = .ok (.lstore_n 2, 1) := by decide +kernel
theorem dX6_mean_71 : decode cX6_mean 71 = .ok (.iinc 4 1, 3) := by decide +kernel
theorem dX6_mean_74 : decode cX6_mean 74 = .ok (.goto (-30), 3) := by decide +kernel
theorem dX6_mean_77 : decode cX6_mean 77 = .ok (.aload_n 0, 1) := by decide +kernel
theorem dX6_mean_78 : decode cX6_mean 78 = .ok (.lload_n 2, 1) := by decide +kernel
theorem dX6_mean_79 : decode cX6_mean 79 = .ok (.aload_n 0, 1) := by decide +kernel
theorem dX6_mean_80 : decode cX6_mean 80 = .ok (.getfield 22, 3) := by decide +kernel
theorem dX6_mean_83 : decode cX6_mean 83 = .ok (.iload_n 1, 1) := by decide +kernel
theorem dX6_mean_84 : decode cX6_mean 84 = .ok (.iaload, 1) := by decide +kernel
theorem dX6_mean_85 : decode cX6_mean 85 = .ok (.i2l, 1) := by decide +kernel
theorem dX6_mean_86 : decode cX6_mean 86 = .ok (.ldiv, 1) := by decide +kernel
theorem dX6_mean_87 : decode cX6_mean 87 = .ok (.l2i, 1) := by decide +kernel
theorem dX6_mean_88 : decode cX6_mean 88 = .ok (.invokevirtual 85, 3) := by decide +kernel
theorem dX6_mean_91 : decode cX6_mean 91 = .ok (.ireturn, 1) := by decide +kernel
def j_X6_mean (F : Nat) (a1 : Int32) (st : sw_St) : Option (Int32 × sw_St) :=
bo (j_X6_isRow F a1 st) (fun (r2 : Int32) =>
(if r2 = 0 then (
 some (((-1) : Int32), st))
else (
 bnd a1 6 (
 (if 0 ≤ (st.1 68 (a1 : Int32).toNatClampNeg) then (
  bnd a1 6 (
  (if (st.1 68 (a1 : Int32).toNatClampNeg) = 0 then (
   bd (j_X6_find F 4 st) (fun (r23 : Int32) (s24 : sw_St) =>
   some ((r23 : Int32), s24)))
  else (
   lz2 (fun f10 (x8 : Int64) (x9 : Int32) =>
    bnd a1 6 (
    (if (st.1 68 (a1 : Int32).toNatClampNeg) ≤ x9 then (
     bnd a1 6 (
     grd (¬ (((st.1 68 (a1 : Int32).toNatClampNeg) : Int32).toInt64) = 0) (
     bd (j_X6_tell F (((x8 / (((st.1 68 (a1 : Int32).toNatClampNeg) : Int32).toInt64)) : Int64).toInt32) st) (fun (r17 : Int32) (s18 : sw_St) =>
     some ((r17 : Int32), s18)))))
    else (
     bnd ((40 * a1) + x9) 240 (
     nm (x8 + (((st.1 69 (((40 * a1) + x9) : Int32).toNatClampNeg) : Int32).toInt64)) (fun (x20 : Int64) =>
     nm (x9 + 1) (fun (x21 : Int32) =>
     f10 x20 x21))))))) F 0 0))))
 else (
  bd (j_X6_find F 1 st) (fun (r26 : Int32) (s27 : sw_St) =>
  some ((r26 : Int32), s27))))))))
set_option maxHeartbeats 4000000 in
set_option maxRecDepth 100000 in
theorem c_X6_mean (F : Nat) (a1 : Int32) (st : sw_St) {r : Int32} {st1 : sw_St} (h : j_X6_mean F a1 st = some (r, st1)) : sw_CI yX6_mean (.code yX6_mean cX6_mean 5 (some .int)) 3 (fun g => [.ref (g.1 63), .int a1]) st r st1 := by
  refine sw_entI RX6 (fun g => [(0, .ref (g.1 63)), (1, .int a1)]) (by decide) rfl (fun _ => Nat.le_of_ble_eq_true rfl) (fun _ => rfl) ?_
  intro p l e s m args below meth c g X hr hlk
  unfold j_X6_mean at h
  refine sw_iload_n X 1 rfl rfl dX6_mean_0 ?_
  obtain ⟨r2, c1, h⟩ := bo_E h
  refine sw_callSI X (As := (fun g => [.int a1])) ws_X6_isRow (by omega) (c_X6_isRow F a1 st c1) rfl rfl (Nat.le_of_ble_eq_true rfl) wm_X6_69 dX6_mean_1 ?_
  refine sw_if_ne X 9 (by decide) dX6_mean_4 (fun q3 => ?_) (fun q3 => ?_)
  · have h := ite_F h q3
    refine sw_aload_n X 0 rfl rfl dX6_mean_9 ?_
    refine sw_getR X sw_cl6 (show sw_kd 63 = 6 from rfl) (k := 5) rfl (by decide) (o1 := 68) rfl wf_X6_22 dX6_mean_10 ?_
    refine sw_iload_n X 1 rfl rfl dX6_mean_13 ?_
    obtain ⟨q4, h⟩ := bnd_E h
    refine sw_iald X (show sw_kd 68 = 8 from rfl) (n := 6) rfl q4 dX6_mean_14 ?_
    refine sw_if_ge X 24 (by decide) dX6_mean_15 (fun q5 => ?_) (fun q5 => ?_)
    · have h := ite_T h q5
      refine sw_aload_n X 0 rfl rfl dX6_mean_24 ?_
      refine sw_getR X sw_cl6 (show sw_kd 63 = 6 from rfl) (k := 5) rfl (by decide) (o1 := 68) rfl wf_X6_22 dX6_mean_25 ?_
      refine sw_iload_n X 1 rfl rfl dX6_mean_28 ?_
      obtain ⟨q6, h⟩ := bnd_E h
      refine sw_iald X (show sw_kd 68 = 8 from rfl) (n := 6) rfl q6 dX6_mean_29 ?_
      refine sw_if_ne X 39 (by decide) dX6_mean_30 (fun q7 => ?_) (fun q7 => ?_)
      · have h := ite_F h q7
        refine sw_lconst X (v := 0) (by decide) dX6_mean_39 ?_
        refine sw_lstore_n X [(2, .long 0), (0, .ref (g.1 63)), (1, .int a1)] rfl (by decide) rfl dX6_mean_40 ?_
        refine sw_iconst X (v := 0) (by decide) dX6_mean_41 ?_
        refine sw_istore X [(4, .int 0), (2, .long 0), (0, .ref (g.1 63)), (1, .int a1)] (by decide) rfl dX6_mean_42 ?_
        refine sw_sub [2, 3, 1, 0] rfl ?_
        refine lz2_E (fun (x8 : Int64) (x9 : Int32) => sw_V p l e 3 s m args below meth c g (sw_A g s.heap.size) (sw_QI below g args s r st1) 5 44 [(0, .ref (g.1 63)), (1, .int a1), (2, .long x8), (4, .int x9)] [] st) h (fun f10 ih11 x8 x9 h => ?_)
        refine sw_iload X 3 rfl dX6_mean_44 ?_
        refine sw_aload_n X 0 rfl rfl dX6_mean_46 ?_
        refine sw_getR X sw_cl6 (show sw_kd 63 = 6 from rfl) (k := 5) rfl (by decide) (o1 := 68) rfl wf_X6_22 dX6_mean_47 ?_
        refine sw_iload_n X 1 rfl rfl dX6_mean_50 ?_
        obtain ⟨q12, h⟩ := bnd_E h
        refine sw_iald X (show sw_kd 68 = 8 from rfl) (n := 6) rfl q12 dX6_mean_51 ?_
        refine sw_icmp_ge X 77 (by decide) dX6_mean_52 (fun q13 => ?_) (fun q13 => ?_)
        · have h := ite_T h q13
          refine sw_aload_n X 0 rfl rfl dX6_mean_77 ?_
          refine sw_lload_n X 2 rfl rfl dX6_mean_78 ?_
          refine sw_aload_n X 0 rfl rfl dX6_mean_79 ?_
          refine sw_getR X sw_cl6 (show sw_kd 63 = 6 from rfl) (k := 5) rfl (by decide) (o1 := 68) rfl wf_X6_22 dX6_mean_80 ?_
          refine sw_iload_n X 1 rfl rfl dX6_mean_83 ?_
          obtain ⟨q14, h⟩ := bnd_E h
          refine sw_iald X (show sw_kd 68 = 8 from rfl) (n := 6) rfl q14 dX6_mean_84 ?_
          refine sw_i2l X dX6_mean_85 ?_
          obtain ⟨q15, h⟩ := grd_E h
          refine sw_ldiv X q15 dX6_mean_86 ?_
          refine sw_l2i X dX6_mean_87 ?_
          obtain ⟨r17, s18, c16, h⟩ := bd_E h
          refine sw_callVI X (o := 63) (As := (fun g => [.int (((x8 / (((st.1 68 (a1 : Int32).toNatClampNeg) : Int32).toInt64)) : Int64).toInt32)])) sw_cl6 (show sw_kd 63 = 6 from rfl) ws_X6_tell (by omega) (c_X6_tell F (((x8 / (((st.1 68 (a1 : Int32).toNatClampNeg) : Int32).toInt64)) : Int64).toInt32) st c16) rfl rfl (Nat.le_of_ble_eq_true rfl) wm_X6_85 dX6_mean_88 ?_
          exact sw_iret X hr hlk dX6_mean_91 h
        · have h := ite_F h q13
          refine sw_lload_n X 2 rfl rfl dX6_mean_55 ?_
          refine sw_aload_n X 0 rfl rfl dX6_mean_56 ?_
          refine sw_getR X sw_cl6 (show sw_kd 63 = 6 from rfl) (k := 6) rfl (by decide) (o1 := 69) rfl wf_X6_25 dX6_mean_57 ?_
          refine sw_bipush X (v := 40) (by decide) dX6_mean_60 ?_
          refine sw_iload_n X 1 rfl rfl dX6_mean_62 ?_
          refine sw_imul X dX6_mean_63 ?_
          refine sw_iload X 3 rfl dX6_mean_64 ?_
          refine sw_iadd X dX6_mean_66 ?_
          obtain ⟨q19, h⟩ := bnd_E h
          refine sw_iald X (show sw_kd 69 = 8 from rfl) (n := 240) rfl q19 dX6_mean_67 ?_
          refine sw_i2l X dX6_mean_68 ?_
          refine sw_ladd X dX6_mean_69 ?_
          refine sw_topl (fun x20 ex20 => ?_)
          have h := nm_E h ex20
          refine sw_lstore_n X [(2, .long x20), (0, .ref (g.1 63)), (1, .int a1), (4, .int x9)] rfl (by decide) rfl dX6_mean_70 ?_
          obtain ⟨x21, ex21⟩ : ∃ y : Int32, y = x9 + 1 := ⟨_, rfl⟩
          have h := nm_E h ex21
          refine sw_iinc X 3 x21 [(4, .int x21), (2, .long x20), (0, .ref (g.1 63)), (1, .int a1)] rfl (by rw [ex21]; rfl) (by decide) rfl dX6_mean_71 ?_
          refine sw_goto X 44 (by decide) dX6_mean_74 ?_
          refine sw_sub [2, 3, 1, 0] rfl ?_
          exact ih11 _ _ h
      · have h := ite_T h q7
        refine sw_aload_n X 0 rfl rfl dX6_mean_33 ?_
        refine sw_iconst X (v := 4) (by decide) dX6_mean_34 ?_
        obtain ⟨r23, s24, c22, h⟩ := bd_E h
        refine sw_callVI X (o := 63) (As := (fun g => [.int 4])) sw_cl6 (show sw_kd 63 = 6 from rfl) ws_X6_find (by omega) (c_X6_find F 4 st c22) rfl rfl (Nat.le_of_ble_eq_true rfl) wm_X6_73 dX6_mean_35 ?_
        exact sw_iret X hr hlk dX6_mean_38 h
    · have h := ite_F h q5
      refine sw_aload_n X 0 rfl rfl dX6_mean_18 ?_
      refine sw_iconst X (v := 1) (by decide) dX6_mean_19 ?_
      obtain ⟨r26, s27, c25, h⟩ := bd_E h
      refine sw_callVI X (o := 63) (As := (fun g => [.int 1])) sw_cl6 (show sw_kd 63 = 6 from rfl) ws_X6_find (by omega) (c_X6_find F 1 st c25) rfl rfl (Nat.le_of_ble_eq_true rfl) wm_X6_73 dX6_mean_20 ?_
      exact sw_iret X hr hlk dX6_mean_23 h
  · have h := ite_T h q3
    refine sw_iconst X (v := (-1)) (by decide) dX6_mean_7 ?_
    exact sw_iret X hr hlk dX6_mean_8 h
theorem dX6_text_0 : decode cX6_text 0 = .ok (.iload_n 1, 1) := by decide +kernel
theorem dX6_text_1 : decode cX6_text 1 = .ok (.invokestatic 92, 3) := by decide +kernel
theorem dX6_text_4 : decode cX6_text 4 = .ok (.ifCond .eq 9, 3) := by decide +kernel
theorem dX6_text_7 : decode cX6_text 7 = .ok (.iload_n 2, 1) := by decide +kernel
theorem dX6_text_8 : decode cX6_text 8 = .ok (.bipush 60, 2) := by decide +kernel
theorem dX6_text_10 : decode cX6_text 10 = .ok (.if_icmp .le 5, 3) := by decide +kernel
theorem dX6_text_13 : decode cX6_text 13 = .ok (.iconst (-1), 1) := by decide +kernel
theorem dX6_text_14 : decode cX6_text 14 = .ok (.ireturn, 1) := by decide +kernel
theorem dX6_text_15 : decode cX6_text 15 = .ok (.iload_n 2, 1) := by decide +kernel
theorem dX6_text_16 : decode cX6_text 16 = .ok (.ifCond .ge 9, 3) := by decide +kernel
theorem dX6_text_19 : decode cX6_text 19 = .ok (.aload_n 0, 1) := by decide +kernel
theorem dX6_text_20 : decode cX6_text 20 = .ok (.iconst 5, 1) := by decide +kernel
theorem dX6_text_21 : decode cX6_text 21 = .ok (.invokevirtual 73, 3) := by decide +kernel
theorem dX6_text_24 : decode cX6_text 24 = .ok (.ireturn, 1) := by decide +kernel
theorem dX6_text_25 : decode cX6_text 25 = .ok (.aload_n 0, 1) := by decide +kernel
theorem dX6_text_26 : decode cX6_text 26 = .ok (.getfield 28, 3) := by decide +kernel
theorem dX6_text_29 : decode cX6_text 29 = .ok (.iload_n 1, 1) := by decide +kernel
theorem dX6_text_30 : decode cX6_text 30 = .ok (.iload_n 2, 1) := by decide +kernel
theorem dX6_text_31 : decode cX6_text 31 = .ok (.iastore, 1) := by decide +kernel
theorem dX6_text_32 : decode cX6_text 32 = .ok (.iconst 0, 1) := by decide +kernel
theorem dX6_text_33 : decode cX6_text 33 = .ok (.istore_n 3, 1) := by decide +kernel
theorem dX6_text_34 : decode cX6_text 34 = .ok (.iload_n 3, 1) := by decide +kernel
theorem dX6_text_35 : decode cX6_text 35 = .ok (.bipush 60, 2) := by decide +kernel
theorem dX6_text_37 : decode cX6_text 37 = .ok (.if_icmp .ge 22, 3) := by decide +kernel
theorem dX6_text_40 : decode cX6_text 40 = .ok (.aload_n 0, 1) := by decide +kernel
theorem dX6_text_41 : decode cX6_text 41 = .ok (.getfield 31, 3) := by decide +kernel
theorem dX6_text_44 : decode cX6_text 44 = .ok (.bipush 60, 2) := by decide +kernel
theorem dX6_text_46 : decode cX6_text 46 = .ok (.iload_n 1, 1) := by decide +kernel
theorem dX6_text_47 : decode cX6_text 47 = .ok (.imul, 1) := by decide +kernel
theorem dX6_text_48 : decode cX6_text 48 = .ok (.iload_n 3, 1) := by decide +kernel
theorem dX6_text_49 : decode cX6_text 49 = .ok (.iadd, 1) := by decide +kernel
theorem dX6_text_50 : decode cX6_text 50 = .ok (.bipush 32, 2) := by decide +kernel
theorem dX6_text_52 : decode cX6_text 52 = .ok (.iastore, 1) := by decide +kernel
theorem dX6_text_53 : decode cX6_text 53 = .ok (.iinc 3 1, 3) := by decide +kernel
theorem dX6_text_56 : decode cX6_text 56 = .ok (.goto (-22), 3) := by decide +kernel
theorem dX6_text_59 : decode cX6_text 59 = .ok (.iload_n 2, 1) := by decide +kernel
theorem dX6_text_60 : decode cX6_text 60 = .ok (.ireturn, 1) := by decide +kernel
def j_X6_text (F : Nat) (a1 : Int32) (a2 : Int32) (st : sw_St) : Option (Int32 × sw_St) :=
bo (j_X6_isText F a1 st) (fun (r2 : Int32) =>
jn (
  some (((-1) : Int32), st)) (fun k3 =>
 (if r2 = 0 then (
  k3)
 else (
  (if a2 ≤ 60 then (
   (if 0 ≤ a2 then (
    bnd a1 4 (
    nm (sw_setC st 70 (a1 : Int32).toNatClampNeg a2) (fun (s9 : sw_St) =>
    lz2 (fun f12 (x10 : Int32) (s11 : sw_St) =>
     (if 60 ≤ x10 then (
      some ((a2 : Int32), s11))
     else (
      bnd ((60 * a1) + x10) 240 (
      nm (sw_setC s11 71 (((60 * a1) + x10) : Int32).toNatClampNeg 32) (fun (s16 : sw_St) =>
      nm (x10 + 1) (fun (x17 : Int32) =>
      f12 x17 s16)))))) F 0 s9)))
   else (
    bd (j_X6_find F 5 st) (fun (r19 : Int32) (s20 : sw_St) =>
    some ((r19 : Int32), s20)))))
  else (
   k3))))))
set_option maxHeartbeats 4000000 in
set_option maxRecDepth 100000 in
theorem c_X6_text (F : Nat) (a1 : Int32) (a2 : Int32) (st : sw_St) {r : Int32} {st1 : sw_St} (h : j_X6_text F a1 a2 st = some (r, st1)) : sw_CI yX6_text (.code yX6_text cX6_text 4 (some .int)) 3 (fun g => [.ref (g.1 63), .int a1, .int a2]) st r st1 := by
  refine sw_entI RX6 (fun g => [(0, .ref (g.1 63)), (1, .int a1), (2, .int a2)]) (by decide) rfl (fun _ => Nat.le_of_ble_eq_true rfl) (fun _ => rfl) ?_
  intro p l e s m args below meth c g X hr hlk
  unfold j_X6_text at h
  refine sw_iload_n X 1 rfl rfl dX6_text_0 ?_
  obtain ⟨r2, c1, h⟩ := bo_E h
  refine sw_callSI X (As := (fun g => [.int a1])) ws_X6_isText (by omega) (c_X6_isText F a1 st c1) rfl rfl (Nat.le_of_ble_eq_true rfl) wm_X6_92 dX6_text_1 ?_
  refine jn0_E (sw_V p l e 3 s m args below meth c g (sw_A g s.heap.size) (sw_QI below g args s r st1) 4 13 [] [] st) h (fun h => ?_) (fun k3 J4 h => ?_)
  · refine sw_iconst X (v := (-1)) (by decide) dX6_text_13 ?_
    exact sw_iret X hr hlk dX6_text_14 h
  · refine sw_if_eq X 13 (by decide) dX6_text_4 (fun q5 => ?_) (fun q5 => ?_)
    · have h := ite_T h q5
      refine sw_sub [] rfl ?_
      exact J4  h
    · have h := ite_F h q5
      refine sw_iload_n X 2 rfl rfl dX6_text_7 ?_
      refine sw_bipush X (v := 60) (by decide) dX6_text_8 ?_
      refine sw_icmp_le X 15 (by decide) dX6_text_10 (fun q6 => ?_) (fun q6 => ?_)
      · have h := ite_T h q6
        refine sw_iload_n X 2 rfl rfl dX6_text_15 ?_
        refine sw_if_ge X 25 (by decide) dX6_text_16 (fun q7 => ?_) (fun q7 => ?_)
        · have h := ite_T h q7
          refine sw_aload_n X 0 rfl rfl dX6_text_25 ?_
          refine sw_getR X sw_cl6 (show sw_kd 63 = 6 from rfl) (k := 7) rfl (by decide) (o1 := 70) rfl wf_X6_28 dX6_text_26 ?_
          refine sw_iload_n X 1 rfl rfl dX6_text_29 ?_
          refine sw_iload_n X 2 rfl rfl dX6_text_30 ?_
          obtain ⟨q8, h⟩ := bnd_E h
          refine sw_iast X (show sw_kd 70 = 8 from rfl) (n := 4) rfl q8 dX6_text_31 (fun s9 es9 => ?_)
          have h := nm_E h es9
          refine sw_iconst X (v := 0) (by decide) dX6_text_32 ?_
          refine sw_istore_n X [(3, .int 0), (0, .ref (g.1 63)), (1, .int a1), (2, .int a2)] rfl (by decide) rfl dX6_text_33 ?_
          refine sw_sub [1, 2, 3, 0] rfl ?_
          refine lz2_E (fun (x10 : Int32) (s11 : sw_St) => sw_V p l e 3 s m args below meth c g (sw_A g s.heap.size) (sw_QI below g args s r st1) 4 34 [(0, .ref (g.1 63)), (1, .int a1), (2, .int a2), (3, .int x10)] [] s11) h (fun f12 ih13 x10 s11 h => ?_)
          refine sw_iload_n X 3 rfl rfl dX6_text_34 ?_
          refine sw_bipush X (v := 60) (by decide) dX6_text_35 ?_
          refine sw_icmp_ge X 59 (by decide) dX6_text_37 (fun q14 => ?_) (fun q14 => ?_)
          · have h := ite_T h q14
            refine sw_iload_n X 2 rfl rfl dX6_text_59 ?_
            exact sw_iret X hr hlk dX6_text_60 h
          · have h := ite_F h q14
            refine sw_aload_n X 0 rfl rfl dX6_text_40 ?_
            refine sw_getR X sw_cl6 (show sw_kd 63 = 6 from rfl) (k := 8) rfl (by decide) (o1 := 71) rfl wf_X6_31 dX6_text_41 ?_
            refine sw_bipush X (v := 60) (by decide) dX6_text_44 ?_
            refine sw_iload_n X 1 rfl rfl dX6_text_46 ?_
            refine sw_imul X dX6_text_47 ?_
            refine sw_iload_n X 3 rfl rfl dX6_text_48 ?_
            refine sw_iadd X dX6_text_49 ?_
            refine sw_bipush X (v := 32) (by decide) dX6_text_50 ?_
            obtain ⟨q15, h⟩ := bnd_E h
            refine sw_iast X (show sw_kd 71 = 8 from rfl) (n := 240) rfl q15 dX6_text_52 (fun s16 es16 => ?_)
            have h := nm_E h es16
            obtain ⟨x17, ex17⟩ : ∃ y : Int32, y = x10 + 1 := ⟨_, rfl⟩
            have h := nm_E h ex17
            refine sw_iinc X 3 x17 [(3, .int x17), (0, .ref (g.1 63)), (1, .int a1), (2, .int a2)] rfl (by rw [ex17]; rfl) (by decide) rfl dX6_text_53 ?_
            refine sw_goto X 34 (by decide) dX6_text_56 ?_
            refine sw_sub [1, 2, 3, 0] rfl ?_
            exact ih13 _ _ h
        · have h := ite_F h q7
          refine sw_aload_n X 0 rfl rfl dX6_text_19 ?_
          refine sw_iconst X (v := 5) (by decide) dX6_text_20 ?_
          obtain ⟨r19, s20, c18, h⟩ := bd_E h
          refine sw_callVI X (o := 63) (As := (fun g => [.int 5])) sw_cl6 (show sw_kd 63 = 6 from rfl) ws_X6_find (by omega) (c_X6_find F 5 st c18) rfl rfl (Nat.le_of_ble_eq_true rfl) wm_X6_73 dX6_text_21 ?_
          exact sw_iret X hr hlk dX6_text_24 h
      · have h := ite_F h q6
        refine sw_sub [] rfl ?_
        exact J4  h
theorem dX6_put_0 : decode cX6_put 0 = .ok (.iload_n 1, 1) := by decide +kernel
theorem dX6_put_1 : decode cX6_put 1 = .ok (.invokestatic 92, 3) := by decide +kernel
theorem dX6_put_4 : decode cX6_put 4 = .ok (.ifCond .ne 5, 3) := by decide +kernel
theorem dX6_put_7 : decode cX6_put 7 = .ok (.iconst (-1), 1) := by decide +kernel
theorem dX6_put_8 : decode cX6_put 8 = .ok (.ireturn, 1) := by decide +kernel
theorem dX6_put_9 : decode cX6_put 9 = .ok (.aload_n 0, 1) := by decide +kernel
theorem dX6_put_10 : decode cX6_put 10 = .ok (.getfield 28, 3) := by decide +kernel
theorem dX6_put_13 : decode cX6_put 13 = .ok (.iload_n 1, 1) := by decide +kernel
theorem dX6_put_14 : decode cX6_put 14 = .ok (.iaload, 1) := by decide +kernel
theorem dX6_put_15 : decode cX6_put 15 = .ok (.ifCond .ge 9, 3) := by decide +kernel
theorem dX6_put_18 : decode cX6_put 18 = .ok (.aload_n 0, 1) := by decide +kernel
theorem dX6_put_19 : decode cX6_put 19 = .ok (.iconst 1, 1) := by decide +kernel
theorem dX6_put_20 : decode cX6_put 20 = .ok (.invokevirtual 73, 3) := by decide +kernel
theorem dX6_put_23 : decode cX6_put 23 = .ok (.ireturn, 1) := by decide +kernel
theorem dX6_put_24 : decode cX6_put 24 = .ok (.iload_n 2, 1) := by decide +kernel
theorem dX6_put_25 : decode cX6_put 25 = .ok (.i2l, 1) := by decide +kernel
theorem dX6_put_26 : decode cX6_put 26 = .ok (.lconst 0, 1) := by decide +kernel
theorem dX6_put_27 : decode cX6_put 27 = .ok (.aload_n 0, 1) := by decide +kernel
theorem dX6_put_28 : decode cX6_put 28 = .ok (.getfield 28, 3) := by decide +kernel
theorem dX6_put_31 : decode cX6_put 31 = .ok (.iload_n 1, 1) := by decide +kernel
theorem dX6_put_32 : decode cX6_put 32 = .ok (.iaload, 1) := by decide +kernel
theorem dX6_put_33 : decode cX6_put 33 = .ok (.iconst 1, 1) := by decide +kernel
theorem dX6_put_34 : decode cX6_put 34 = .ok (.isub, 1) := by decide +kernel
theorem dX6_put_35 : decode cX6_put 35 = .ok (.i2l, 1) := by decide +kernel
theorem dX6_put_36 : decode cX6_put 36 = .ok (.invokestatic 63, 3) := by decide +kernel
theorem dX6_put_39 : decode cX6_put 39 = .ok (.ifCond .ne 9, 3) := by decide +kernel
theorem dX6_put_42 : decode cX6_put 42 = .ok (.aload_n 0, 1) := by decide +kernel
theorem dX6_put_43 : decode cX6_put 43 = .ok (.iconst 2, 1) := by decide +kernel
theorem dX6_put_44 : decode cX6_put 44 = .ok (.invokevirtual 73, 3) := by decide +kernel
theorem dX6_put_47 : decode cX6_put 47 = .ok (.ireturn, 1) := by decide +kernel
theorem dX6_put_48 : decode cX6_put 48 = .ok (.aload_n 0, 1) := by decide +kernel
theorem dX6_put_49 : decode cX6_put 49 = .ok (.getfield 31, 3) := by decide +kernel
theorem dX6_put_52 : decode cX6_put 52 = .ok (.bipush 60, 2) := by decide +kernel
theorem dX6_put_54 : decode cX6_put 54 = .ok (.iload_n 1, 1) := by decide +kernel
theorem dX6_put_55 : decode cX6_put 55 = .ok (.imul, 1) := by decide +kernel
theorem dX6_put_56 : decode cX6_put 56 = .ok (.iload_n 2, 1) := by decide +kernel
theorem dX6_put_57 : decode cX6_put 57 = .ok (.iadd, 1) := by decide +kernel
theorem dX6_put_58 : decode cX6_put 58 = .ok (.iaload, 1) := by decide +kernel
theorem dX6_put_59 : decode cX6_put 59 = .ok (.istore 4, 2) := by decide +kernel
theorem dX6_put_61 : decode cX6_put 61 = .ok (.aload_n 0, 1) := by decide +kernel
theorem dX6_put_62 : decode cX6_put 62 = .ok (.getfield 31, 3) := by decide +kernel
theorem dX6_put_65 : decode cX6_put 65 = .ok (.bipush 60, 2) := by decide +kernel
theorem dX6_put_67 : decode cX6_put 67 = .ok (.iload_n 1, 1) := by decide +kernel
theorem dX6_put_68 : decode cX6_put 68 = .ok (.imul, 1) := by decide +kernel
theorem dX6_put_69 : decode cX6_put 69 = .ok (.iload_n 2, 1) := by decide +kernel
theorem dX6_put_70 : decode cX6_put 70 = .ok (.iadd, 1) := by decide +kernel
theorem dX6_put_71 : decode cX6_put 71 = .ok (.iload_n 3, 1) := by decide +kernel
theorem dX6_put_72 : decode cX6_put 72 = .ok (.i2b, 1) := by decide +kernel
theorem dX6_put_73 : decode cX6_put 73 = .ok (.iastore, 1) := by decide +kernel
theorem dX6_put_74 : decode cX6_put 74 = .ok (.iload 4, 2) := by decide +kernel
theorem dX6_put_76 : decode cX6_put 76 = .ok (.sipush 1000, 3) := by decide +kernel
theorem dX6_put_79 : decode cX6_put 79 = .ok (.iadd, 1) := by decide +kernel
theorem dX6_put_80 : decode cX6_put 80 = .ok (.ireturn, 1) := by decide +kernel
def j_X6_put (F : Nat) (a1 : Int32) (a2 : Int32) (a3 : Int32) (st : sw_St) : Option (Int32 × sw_St) :=
bo (j_X6_isText F a1 st) (fun (r2 : Int32) =>
(if r2 = 0 then (
 some (((-1) : Int32), st))
else (
 bnd a1 4 (
 (if 0 ≤ (st.1 70 (a1 : Int32).toNatClampNeg) then (
  bnd a1 4 (
  bo (j_X6_in F ((a2 : Int32).toInt64) 0 ((((st.1 70 (a1 : Int32).toNatClampNeg) - 1) : Int32).toInt64) st) (fun (r8 : Int32) =>
  (if r8 = 0 then (
   bd (j_X6_find F 2 st) (fun (r15 : Int32) (s16 : sw_St) =>
   some ((r15 : Int32), s16)))
  else (
   bnd ((60 * a1) + a2) 240 (
   nm (st.1 71 (((60 * a1) + a2) : Int32).toNatClampNeg) (fun (x11 : Int32) =>
   bnd ((60 * a1) + a2) 240 (
   nm (sw_setC st 71 (((60 * a1) + a2) : Int32).toNatClampNeg ((a3 : Int32).toInt8.toInt32)) (fun (s13 : sw_St) =>
   some ((x11 + 1000 : Int32), s13))))))))))
 else (
  bd (j_X6_find F 1 st) (fun (r18 : Int32) (s19 : sw_St) =>
  some ((r18 : Int32), s19))))))))
set_option maxHeartbeats 4000000 in
set_option maxRecDepth 100000 in
theorem c_X6_put (F : Nat) (a1 : Int32) (a2 : Int32) (a3 : Int32) (st : sw_St) {r : Int32} {st1 : sw_St} (h : j_X6_put F a1 a2 a3 st = some (r, st1)) : sw_CI yX6_put (.code yX6_put cX6_put 5 (some .int)) 3 (fun g => [.ref (g.1 63), .int a1, .int a2, .int a3]) st r st1 := by
  refine sw_entI RX6 (fun g => [(0, .ref (g.1 63)), (1, .int a1), (2, .int a2), (3, .int a3)]) (by decide) rfl (fun _ => Nat.le_of_ble_eq_true rfl) (fun _ => rfl) ?_
  intro p l e s m args below meth c g X hr hlk
  unfold j_X6_put at h
  refine sw_iload_n X 1 rfl rfl dX6_put_0 ?_
  obtain ⟨r2, c1, h⟩ := bo_E h
  refine sw_callSI X (As := (fun g => [.int a1])) ws_X6_isText (by omega) (c_X6_isText F a1 st c1) rfl rfl (Nat.le_of_ble_eq_true rfl) wm_X6_92 dX6_put_1 ?_
  refine sw_if_ne X 9 (by decide) dX6_put_4 (fun q3 => ?_) (fun q3 => ?_)
  · have h := ite_F h q3
    refine sw_aload_n X 0 rfl rfl dX6_put_9 ?_
    refine sw_getR X sw_cl6 (show sw_kd 63 = 6 from rfl) (k := 7) rfl (by decide) (o1 := 70) rfl wf_X6_28 dX6_put_10 ?_
    refine sw_iload_n X 1 rfl rfl dX6_put_13 ?_
    obtain ⟨q4, h⟩ := bnd_E h
    refine sw_iald X (show sw_kd 70 = 8 from rfl) (n := 4) rfl q4 dX6_put_14 ?_
    refine sw_if_ge X 24 (by decide) dX6_put_15 (fun q5 => ?_) (fun q5 => ?_)
    · have h := ite_T h q5
      refine sw_iload_n X 2 rfl rfl dX6_put_24 ?_
      refine sw_i2l X dX6_put_25 ?_
      refine sw_lconst X (v := 0) (by decide) dX6_put_26 ?_
      refine sw_aload_n X 0 rfl rfl dX6_put_27 ?_
      refine sw_getR X sw_cl6 (show sw_kd 63 = 6 from rfl) (k := 7) rfl (by decide) (o1 := 70) rfl wf_X6_28 dX6_put_28 ?_
      refine sw_iload_n X 1 rfl rfl dX6_put_31 ?_
      obtain ⟨q6, h⟩ := bnd_E h
      refine sw_iald X (show sw_kd 70 = 8 from rfl) (n := 4) rfl q6 dX6_put_32 ?_
      refine sw_iconst X (v := 1) (by decide) dX6_put_33 ?_
      refine sw_isub X dX6_put_34 ?_
      refine sw_i2l X dX6_put_35 ?_
      obtain ⟨r8, c7, h⟩ := bo_E h
      refine sw_callSI X (As := (fun g => [.long ((a2 : Int32).toInt64), .long 0, .long ((((st.1 70 (a1 : Int32).toNatClampNeg) - 1) : Int32).toInt64)])) ws_X6_in (by omega) (c_X6_in F ((a2 : Int32).toInt64) 0 ((((st.1 70 (a1 : Int32).toNatClampNeg) - 1) : Int32).toInt64) st c7) rfl rfl (Nat.le_of_ble_eq_true rfl) wm_X6_63 dX6_put_36 ?_
      refine sw_if_ne X 48 (by decide) dX6_put_39 (fun q9 => ?_) (fun q9 => ?_)
      · have h := ite_F h q9
        refine sw_aload_n X 0 rfl rfl dX6_put_48 ?_
        refine sw_getR X sw_cl6 (show sw_kd 63 = 6 from rfl) (k := 8) rfl (by decide) (o1 := 71) rfl wf_X6_31 dX6_put_49 ?_
        refine sw_bipush X (v := 60) (by decide) dX6_put_52 ?_
        refine sw_iload_n X 1 rfl rfl dX6_put_54 ?_
        refine sw_imul X dX6_put_55 ?_
        refine sw_iload_n X 2 rfl rfl dX6_put_56 ?_
        refine sw_iadd X dX6_put_57 ?_
        obtain ⟨q10, h⟩ := bnd_E h
        refine sw_iald X (show sw_kd 71 = 8 from rfl) (n := 240) rfl q10 dX6_put_58 ?_
        refine sw_topi (fun x11 ex11 => ?_)
        have h := nm_E h ex11
        refine sw_istore X [(4, .int x11), (0, .ref (g.1 63)), (1, .int a1), (2, .int a2), (3, .int a3)] (by decide) rfl dX6_put_59 ?_
        refine sw_aload_n X 1 rfl rfl dX6_put_61 ?_
        refine sw_getR X sw_cl6 (show sw_kd 63 = 6 from rfl) (k := 8) rfl (by decide) (o1 := 71) rfl wf_X6_31 dX6_put_62 ?_
        refine sw_bipush X (v := 60) (by decide) dX6_put_65 ?_
        refine sw_iload_n X 2 rfl rfl dX6_put_67 ?_
        refine sw_imul X dX6_put_68 ?_
        refine sw_iload_n X 3 rfl rfl dX6_put_69 ?_
        refine sw_iadd X dX6_put_70 ?_
        refine sw_iload_n X 4 rfl rfl dX6_put_71 ?_
        refine sw_i2b X dX6_put_72 ?_
        obtain ⟨q12, h⟩ := bnd_E h
        refine sw_iast X (show sw_kd 71 = 8 from rfl) (n := 240) rfl q12 dX6_put_73 (fun s13 es13 => ?_)
        have h := nm_E h es13
        refine sw_iload X 0 rfl dX6_put_74 ?_
        refine sw_sipush X (v := 1000) (by decide) dX6_put_76 ?_
        refine sw_iadd X dX6_put_79 ?_
        exact sw_iret X hr hlk dX6_put_80 h
      · have h := ite_T h q9
        refine sw_aload_n X 0 rfl rfl dX6_put_42 ?_
        refine sw_iconst X (v := 2) (by decide) dX6_put_43 ?_
        obtain ⟨r15, s16, c14, h⟩ := bd_E h
        refine sw_callVI X (o := 63) (As := (fun g => [.int 2])) sw_cl6 (show sw_kd 63 = 6 from rfl) ws_X6_find (by omega) (c_X6_find F 2 st c14) rfl rfl (Nat.le_of_ble_eq_true rfl) wm_X6_73 dX6_put_44 ?_
        exact sw_iret X hr hlk dX6_put_47 h
    · have h := ite_F h q5
      refine sw_aload_n X 0 rfl rfl dX6_put_18 ?_
      refine sw_iconst X (v := 1) (by decide) dX6_put_19 ?_
      obtain ⟨r18, s19, c17, h⟩ := bd_E h
      refine sw_callVI X (o := 63) (As := (fun g => [.int 1])) sw_cl6 (show sw_kd 63 = 6 from rfl) ws_X6_find (by omega) (c_X6_find F 1 st c17) rfl rfl (Nat.le_of_ble_eq_true rfl) wm_X6_73 dX6_put_20 ?_
      exact sw_iret X hr hlk dX6_put_23 h
  · have h := ite_T h q3
    refine sw_iconst X (v := (-1)) (by decide) dX6_put_7 ?_
    exact sw_iret X hr hlk dX6_put_8 h
theorem dX6_here_0 : decode cX6_here 0 = .ok (.aload_n 0, 1) := by decide +kernel
theorem dX6_here_1 : decode cX6_here 1 = .ok (.getfield 31, 3) := by decide +kernel
theorem dX6_here_4 : decode cX6_here 4 = .ok (.aload_n 0, 1) := by decide +kernel
theorem dX6_here_5 : decode cX6_here 5 = .ok (.getfield 95, 3) := by decide +kernel
theorem dX6_here_8 : decode cX6_here 8 = .ok (.aload_n 0, 1) := by decide +kernel
theorem dX6_here_9 : decode cX6_here 9 = .ok (.getfield 98, 3) := by decide +kernel
theorem dX6_here_12 : decode cX6_here 12 = .ok (.iadd, 1) := by decide +kernel
theorem dX6_here_13 : decode cX6_here 13 = .ok (.iaload, 1) := by decide +kernel
theorem dX6_here_14 : decode cX6_here 14 = .ok (.ireturn, 1) := by decide +kernel
def j_X6_here (F : Nat) (st : sw_St) : Option Int32 :=
bnd ((st.1 63 14) + (st.1 63 15)) 240 (
some (st.1 71 (((st.1 63 14) + (st.1 63 15)) : Int32).toNatClampNeg : Int32))
set_option maxHeartbeats 4000000 in
set_option maxRecDepth 100000 in
theorem c_X6_here (F : Nat) (st : sw_St) {r : Int32} (h : j_X6_here F  st = some r) : sw_CI yX6_here (.code yX6_here cX6_here 1 (some .int)) 1 (fun g => [.ref (g.1 63)]) st r st := by
  refine sw_entI RX6 (fun g => [(0, .ref (g.1 63))]) (by decide) rfl (fun _ => Nat.le_of_ble_eq_true rfl) (fun _ => rfl) ?_
  intro p l e s m args below meth c g X hr hlk
  unfold j_X6_here at h
  refine sw_aload_n X 0 rfl rfl dX6_here_0 ?_
  refine sw_getR X sw_cl6 (show sw_kd 63 = 6 from rfl) (k := 8) rfl (by decide) (o1 := 71) rfl wf_X6_31 dX6_here_1 ?_
  refine sw_aload_n X 0 rfl rfl dX6_here_4 ?_
  refine sw_getI X sw_cl6 (show sw_kd 63 = 6 from rfl) (k := 14) rfl (by decide) wf_X6_95 dX6_here_5 ?_
  refine sw_aload_n X 0 rfl rfl dX6_here_8 ?_
  refine sw_getI X sw_cl6 (show sw_kd 63 = 6 from rfl) (k := 15) rfl (by decide) wf_X6_98 dX6_here_9 ?_
  refine sw_iadd X dX6_here_12 ?_
  obtain ⟨q1, h⟩ := bnd_E h
  refine sw_iald X (show sw_kd 71 = 8 from rfl) (n := 240) rfl q1 dX6_here_13 ?_
  exact sw_iret X hr hlk dX6_here_14 (by cases h; rfl)
