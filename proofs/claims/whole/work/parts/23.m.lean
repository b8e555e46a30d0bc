theorem dX6_out_0 : decode cX6_out 0 = .ok (.iconst 1, 1) := by decide +kernel
theorem dX6_out_1 : decode cX6_out 1 = .ok (.aload_n 0, 1) := by decide +kernel
theorem dX6_out_2 : decode cX6_out 2 = .ok (.getfield 136, 3) := by decide +kernel
theorem dX6_out_5 : decode cX6_out 5 = .ok (.ishl, 1) := by decide +kernel
theorem dX6_out_6 : decode cX6_out 6 = .ok (.iconst 1, 1) := by decide +kernel
theorem dX6_out_7 : decode cX6_out 7 = .ok (.isub, 1) := by decide +kernel
theorem dX6_out_8 : decode cX6_out 8 = .ok (.aload_n 0, 1) := by decide +kernel
theorem dX6_out_9 : decode cX6_out 9 = .ok (.getfield 7, 3) := by decide +kernel
theorem dX6_out_12 : decode cX6_out 12 = .ok (.iconst 5, 1) := by decide +kernel
theorem dX6_out_13 : decode cX6_out 13 = .ok (.iaload, 1) := by decide +kernel
theorem dX6_out_14 : decode cX6_out 14 = .ok (.iconst (-1), 1) := by decide +kernel
theorem dX6_out_15 : decode cX6_out 15 = .ok (.ixor, 1) := by decide +kernel
theorem dX6_out_16 : decode cX6_out 16 = .ok (.iand, 1) := by decide +kernel
theorem dX6_out_17 : decode cX6_out 17 = .ok (.ireturn, 1) := by decide +kernel
def j_X6_out (F : Nat) (st : sw_St) : Option Int32 :=
some (((1 <<< ((st.1 63 1) &&& 31)) - 1) &&& ((st.1 64 5) ^^^ (-1)) : Int32)
set_option maxHeartbeats 4000000 in
set_option maxRecDepth 100000 in
theorem c_X6_out (F : Nat) (st : sw_St) {r : Int32} (h : j_X6_out F  st = some r) : sw_CI yX6_out (.code yX6_out cX6_out 1 (some .int)) 1 (fun g => [.ref (g.1 63)]) st r st := by
  refine sw_entI RX6 (fun g => [(0, .ref (g.1 63))]) (by decide) rfl (fun _ => Nat.le_of_ble_eq_true rfl) (fun _ => rfl) ?_
  intro p l e s m args below meth c g X hr hlk
  unfold j_X6_out at h
  refine sw_iconst X (v := 1) (by decide) dX6_out_0 ?_
  refine sw_aload_n X 0 rfl rfl dX6_out_1 ?_
  refine sw_getI X sw_cl6 (show sw_kd 63 = 6 from rfl) (k := 1) rfl (by decide) wf_X6_136 dX6_out_2 ?_
  refine sw_ishl X dX6_out_5 ?_
  refine sw_iconst X (v := 1) (by decide) dX6_out_6 ?_
  refine sw_isub X dX6_out_7 ?_
  refine sw_aload_n X 0 rfl rfl dX6_out_8 ?_
  refine sw_getR X sw_cl6 (show sw_kd 63 = 6 from rfl) (k := 0) rfl (by decide) (o1 := 64) rfl wf_X6_7 dX6_out_9 ?_
  refine sw_iconst X (v := 5) (by decide) dX6_out_12 ?_
  refine sw_iald X (show sw_kd 64 = 8 from rfl) (n := 835) rfl (i := 5) (by unfold vp_in; decide) dX6_out_13 ?_
  refine sw_iconst X (v := (-1)) (by decide) dX6_out_14 ?_
  refine sw_ixor X dX6_out_15 ?_
  refine sw_iand X dX6_out_16 ?_
  exact sw_iret X hr hlk dX6_out_17 (by cases h; rfl)
theorem dX6_toldOf_0 : decode cX6_toldOf 0 = .ok (.iload_n 2, 1) := by decide +kernel
theorem dX6_toldOf_1 : decode cX6_toldOf 1 = .ok (.tableswitch 79 0 4 #[35, 42, 49, 61, 68], 35) := by decide +kernel
theorem dX6_toldOf_36 : decode cX6_toldOf 36 = .ok (.aload_n 0, 1) := by decide +kernel
theorem dX6_toldOf_37 : decode cX6_toldOf 37 = .ok (.getfield 13, 3) := by decide +kernel
theorem dX6_toldOf_40 : decode cX6_toldOf 40 = .ok (.iload_n 1, 1) := by decide +kernel
theorem dX6_toldOf_41 : decode cX6_toldOf 41 = .ok (.iaload, 1) := by decide +kernel
theorem dX6_toldOf_42 : decode cX6_toldOf 42 = .ok (.ireturn, 1) := by decide +kernel
theorem dX6_toldOf_43 : decode cX6_toldOf 43 = .ok (.aload_n 0, 1) := by decide +kernel
theorem dX6_toldOf_44 : decode cX6_toldOf 44 = .ok (.getfield 16, 3) := by decide +kernel
theorem dX6_toldOf_47 : decode cX6_toldOf 47 = .ok (.iload_n 1, 1) := by decide +kernel
theorem dX6_toldOf_48 : decode cX6_toldOf 48 = .ok (.iaload, 1) := by decide +kernel
theorem dX6_toldOf_49 : decode cX6_toldOf 49 = .ok (.ireturn, 1) := by decide +kernel
theorem dX6_toldOf_50 : decode cX6_toldOf 50 = .ok (.aload_n 0, 1) := by decide +kernel
theorem dX6_toldOf_51 : decode cX6_toldOf 51 = .ok (.getfield 7, 3) := by decide +kernel
theorem dX6_toldOf_54 : decode cX6_toldOf 54 = .ok (.bipush 6, 2) := by decide +kernel
theorem dX6_toldOf_56 : decode cX6_toldOf 56 = .ok (.iaload, 1) := by decide +kernel
theorem dX6_toldOf_57 : decode cX6_toldOf 57 = .ok (.iload_n 1, 1) := by decide +kernel
theorem dX6_toldOf_58 : decode cX6_toldOf 58 = .ok (.ishr, 1) := by decide +kernel
theorem dX6_toldOf_59 : decode cX6_toldOf 59 = .ok (.iconst 1, 1) := by decide +kernel
theorem dX6_toldOf_60 : decode cX6_toldOf 60 = .ok (.iand, 1) := by decide +kernel
theorem dX6_toldOf_61 : decode cX6_toldOf 61 = .ok (.ireturn, 1) := by decide +kernel
theorem dX6_toldOf_62 : decode cX6_toldOf 62 = .ok (.aload_n 0, 1) := by decide +kernel
theorem dX6_toldOf_63 : decode cX6_toldOf 63 = .ok (.getfield 19, 3) := by decide +kernel
theorem dX6_toldOf_66 : decode cX6_toldOf 66 = .ok (.iload_n 1, 1) := by decide +kernel
theorem dX6_toldOf_67 : decode cX6_toldOf 67 = .ok (.iaload, 1) := by decide +kernel
theorem dX6_toldOf_68 : decode cX6_toldOf 68 = .ok (.ireturn, 1) := by decide +kernel
theorem dX6_toldOf_69 : decode cX6_toldOf 69 = .ok (.aload_n 0, 1) := by decide +kernel
theorem dX6_toldOf_70 : decode cX6_toldOf 70 = .ok (.getfield 7, 3) := by decide +kernel
theorem dX6_toldOf_73 : decode cX6_toldOf 73 = .ok (.iconst 5, 1) := by decide +kernel
theorem dX6_toldOf_74 : decode cX6_toldOf 74 = .ok (.iaload, 1) := by decide +kernel
theorem dX6_toldOf_75 : decode cX6_toldOf 75 = .ok (.iload_n 1, 1) := by decide +kernel
theorem dX6_toldOf_76 : decode cX6_toldOf 76 = .ok (.ishr, 1) := by decide +kernel
theorem dX6_toldOf_77 : decode cX6_toldOf 77 = .ok (.iconst 1, 1) := by decide +kernel
theorem dX6_toldOf_78 : decode cX6_toldOf 78 = .ok (.iand, 1) := by decide +kernel
theorem dX6_toldOf_79 : decode cX6_toldOf 79 = .ok (.ireturn, 1) := by decide +kernel
theorem dX6_toldOf_80 : decode cX6_toldOf 80 = .ok (.aload_n 0, 1) := by decide +kernel
theorem dX6_toldOf_81 : decode cX6_toldOf 81 = .ok (.iconst 0, 1) := by decide +kernel
theorem dX6_toldOf_82 : decode cX6_toldOf 82 = .ok (.iload_n 1, 1) := by decide +kernel
theorem dX6_toldOf_83 : decode cX6_toldOf 83 = .ok (.invokevirtual 149, 3) := by decide +kernel
theorem dX6_toldOf_86 : decode cX6_toldOf 86 = .ok (.ireturn, 1) := by decide +kernel
def j_X6_toldOf (F : Nat) (a1 : Int32) (a2 : Int32) (st : sw_St) : Option Int32 :=
(if a2 = 0 then (
 bnd a1 6 (
 some (st.1 65 (a1 : Int32).toNatClampNeg : Int32)))
else (
 (if a2 = 1 then (
  bnd a1 6 (
  some (st.1 66 (a1 : Int32).toNatClampNeg : Int32)))
 else (
  (if a2 = 2 then (
   some (((st.1 64 6) >>> (a1 &&& 31)) &&& 1 : Int32))
  else (
   (if a2 = 3 then (
    bnd a1 6 (
    some (st.1 67 (a1 : Int32).toNatClampNeg : Int32)))
   else (
    (if a2 = 4 then (
     some (((st.1 64 5) >>> (a1 &&& 31)) &&& 1 : Int32))
    else (
     bo (j_X6_turnsOf F 0 a1 st) (fun (r12 : Int32) =>
     some (r12 : Int32))))))))))))
set_option maxHeartbeats 4000000 in
set_option maxRecDepth 100000 in
theorem c_X6_toldOf (F : Nat) (a1 : Int32) (a2 : Int32) (st : sw_St) {r : Int32} (h : j_X6_toldOf F a1 a2 st = some r) : sw_CI yX6_toldOf (.code yX6_toldOf cX6_toldOf 3 (some .int)) 4 (fun g => [.ref (g.1 63), .int a1, .int a2]) st r st := by
  refine sw_entI RX6 (fun g => [(0, .ref (g.1 63)), (1, .int a1), (2, .int a2)]) (by decide) rfl (fun _ => Nat.le_of_ble_eq_true rfl) (fun _ => rfl) ?_
  intro p l e s m args below meth c g X hr hlk
  unfold j_X6_toldOf at h
  refine sw_iload_n X 2 rfl rfl dX6_toldOf_0 ?_
  by_cases q1 : a2 = 0
  · have h := ite_T h q1
    refine sw_tabIn X (k := 0) (off := 35) 36 q1 (by decide) (by decide) (by decide) (by decide) dX6_toldOf_1 ?_
    refine sw_aload_n X 0 rfl rfl dX6_toldOf_36 ?_
    refine sw_getR X sw_cl6 (show sw_kd 63 = 6 from rfl) (k := 2) rfl (by decide) (o1 := 65) rfl wf_X6_13 dX6_toldOf_37 ?_
    refine sw_iload_n X 1 rfl rfl dX6_toldOf_40 ?_
    obtain ⟨q2, h⟩ := bnd_E h
    refine sw_iald X (show sw_kd 65 = 8 from rfl) (n := 6) rfl q2 dX6_toldOf_41 ?_
    exact sw_iret X hr hlk dX6_toldOf_42 (by cases h; rfl)
  · have h := ite_F h q1
    by_cases q3 : a2 = 1
    · have h := ite_T h q3
      refine sw_tabIn X (k := 1) (off := 42) 43 q3 (by decide) (by decide) (by decide) (by decide) dX6_toldOf_1 ?_
      refine sw_aload_n X 0 rfl rfl dX6_toldOf_43 ?_
      refine sw_getR X sw_cl6 (show sw_kd 63 = 6 from rfl) (k := 3) rfl (by decide) (o1 := 66) rfl wf_X6_16 dX6_toldOf_44 ?_
      refine sw_iload_n X 1 rfl rfl dX6_toldOf_47 ?_
      obtain ⟨q4, h⟩ := bnd_E h
      refine sw_iald X (show sw_kd 66 = 8 from rfl) (n := 6) rfl q4 dX6_toldOf_48 ?_
      exact sw_iret X hr hlk dX6_toldOf_49 (by cases h; rfl)
    · have h := ite_F h q3
      by_cases q5 : a2 = 2
      · have h := ite_T h q5
        refine sw_tabIn X (k := 2) (off := 49) 50 q5 (by decide) (by decide) (by decide) (by decide) dX6_toldOf_1 ?_
        refine sw_aload_n X 0 rfl rfl dX6_toldOf_50 ?_
        refine sw_getR X sw_cl6 (show sw_kd 63 = 6 from rfl) (k := 0) rfl (by decide) (o1 := 64) rfl wf_X6_7 dX6_toldOf_51 ?_
        refine sw_bipush X (v := 6) (by decide) dX6_toldOf_54 ?_
        refine sw_iald X (show sw_kd 64 = 8 from rfl) (n := 835) rfl (i := 6) (by unfold vp_in; decide) dX6_toldOf_56 ?_
        refine sw_iload_n X 1 rfl rfl dX6_toldOf_57 ?_
        refine sw_ishr X dX6_toldOf_58 ?_
        refine sw_iconst X (v := 1) (by decide) dX6_toldOf_59 ?_
        refine sw_iand X dX6_toldOf_60 ?_
        exact sw_iret X hr hlk dX6_toldOf_61 (by cases h; rfl)
      · have h := ite_F h q5
        by_cases q7 : a2 = 3
        · have h := ite_T h q7
          refine sw_tabIn X (k := 3) (off := 61) 62 q7 (by decide) (by decide) (by decide) (by decide) dX6_toldOf_1 ?_
          refine sw_aload_n X 0 rfl rfl dX6_toldOf_62 ?_
          refine sw_getR X sw_cl6 (show sw_kd 63 = 6 from rfl) (k := 4) rfl (by decide) (o1 := 67) rfl wf_X6_19 dX6_toldOf_63 ?_
          refine sw_iload_n X 1 rfl rfl dX6_toldOf_66 ?_
          obtain ⟨q8, h⟩ := bnd_E h
          refine sw_iald X (show sw_kd 67 = 8 from rfl) (n := 6) rfl q8 dX6_toldOf_67 ?_
          exact sw_iret X hr hlk dX6_toldOf_68 (by cases h; rfl)
        · have h := ite_F h q7
          by_cases q9 : a2 = 4
          · have h := ite_T h q9
            refine sw_tabIn X (k := 4) (off := 68) 69 q9 (by decide) (by decide) (by decide) (by decide) dX6_toldOf_1 ?_
            refine sw_aload_n X 0 rfl rfl dX6_toldOf_69 ?_
            refine sw_getR X sw_cl6 (show sw_kd 63 = 6 from rfl) (k := 0) rfl (by decide) (o1 := 64) rfl wf_X6_7 dX6_toldOf_70 ?_
            refine sw_iconst X (v := 5) (by decide) dX6_toldOf_73 ?_
            refine sw_iald X (show sw_kd 64 = 8 from rfl) (n := 835) rfl (i := 5) (by unfold vp_in; decide) dX6_toldOf_74 ?_
            refine sw_iload_n X 1 rfl rfl dX6_toldOf_75 ?_
            refine sw_ishr X dX6_toldOf_76 ?_
            refine sw_iconst X (v := 1) (by decide) dX6_toldOf_77 ?_
            refine sw_iand X dX6_toldOf_78 ?_
            exact sw_iret X hr hlk dX6_toldOf_79 (by cases h; rfl)
          · have h := ite_F h q9
            have n0 := lv_neT q1 (show (0 : Int32).toInt = 0 by decide)
            have n1 := lv_neT q3 (show (1 : Int32).toInt = 1 by decide)
            have n2 := lv_neT q5 (show (2 : Int32).toInt = 2 by decide)
            have n3 := lv_neT q7 (show (3 : Int32).toInt = 3 by decide)
            have n4 := lv_neT q9 (show (4 : Int32).toInt = 4 by decide)
            refine sw_tabOut X 80 (by omega) (by decide) dX6_toldOf_1 ?_
            refine sw_aload_n X 0 rfl rfl dX6_toldOf_80 ?_
            refine sw_iconst X (v := 0) (by decide) dX6_toldOf_81 ?_
            refine sw_iload_n X 1 rfl rfl dX6_toldOf_82 ?_
            obtain ⟨r12, c11, h⟩ := bo_E h
            refine sw_callVI X (o := 63) (As := (fun g => [.int 0, .int a1])) sw_cl6 (show sw_kd 63 = 6 from rfl) ws_X6_turnsOf (by omega) (c_X6_turnsOf F 0 a1 st c11) rfl rfl (Nat.le_of_ble_eq_true rfl) wm_X6_149 dX6_toldOf_83 ?_
            exact sw_iret X hr hlk dX6_toldOf_86 (by cases h; rfl)
theorem dX6_stranger_0 : decode cX6_stranger 0 = .ok (.aload_n 0, 1) := by decide +kernel
theorem dX6_stranger_1 : decode cX6_stranger 1 = .ok (.iload_n 1, 1) := by decide +kernel
theorem dX6_stranger_2 : decode cX6_stranger 2 = .ok (.invokevirtual 155, 3) := by decide +kernel
theorem dX6_stranger_5 : decode cX6_stranger 5 = .ok (.ifCond .eq 28, 3) := by decide +kernel
theorem dX6_stranger_8 : decode cX6_stranger 8 = .ok (.iload_n 2, 1) := by decide +kernel
theorem dX6_stranger_9 : decode cX6_stranger 9 = .ok (.i2l, 1) := by decide +kernel
theorem dX6_stranger_10 : decode cX6_stranger 10 = .ok (.lconst 0, 1) := by decide +kernel
theorem dX6_stranger_11 : decode cX6_stranger 11 = .ok (.ldc2_w 61, 3) := by decide +kernel
theorem dX6_stranger_14 : decode cX6_stranger 14 = .ok (.invokestatic 63, 3) := by decide +kernel
theorem dX6_stranger_17 : decode cX6_stranger 17 = .ok (.ifCond .eq 16, 3) := by decide +kernel
theorem dX6_stranger_20 : decode cX6_stranger 20 = .ok (.aload_n 0, 1) := by decide +kernel
theorem dX6_stranger_21 : decode cX6_stranger 21 = .ok (.aload_n 0, 1) := by decide +kernel
theorem dX6_stranger_22 : decode cX6_stranger 22 = .ok (.iload_n 1, 1) := by decide +kernel
theorem dX6_stranger_23 : decode cX6_stranger 23 = .ok (.iload_n 2, 1) := by decide +kernel
theorem dX6_stranger_24 : decode cX6_stranger 24 = .ok (.invokevirtual 158, 3) := by decide +kernel
theorem dX6_stranger_27 : decode cX6_stranger 27 = .ok (.invokevirtual 85, 3) := by decide +kernel
theorem dX6_stranger_30 : decode cX6_stranger 30 = .ok (.goto 4, 3) := by decide +kernel
theorem dX6_stranger_33 : decode cX6_stranger 33 = .ok (.iconst (-1), 1) := by decide +kernel
theorem dX6_stranger_34 : decode cX6_stranger 34 = .ok (.ireturn, 1) := by decide +kernel
def j_X6_stranger (F : Nat) (a1 : Int32) (a2 : Int32) (st : sw_St) : Option (Int32 × sw_St) :=
bo (j_X6_isStranger F a1 st) (fun (r2 : Int32) =>
jn (fun (x3 : Int32) (s4 : sw_St) => 
  some ((x3 : Int32), s4)) (fun k5 =>
 jn (
   k5 (-1) st) (fun k7 =>
  (if r2 = 0 then (
   k7)
  else (
   bo (j_X6_in F ((a2 : Int32).toInt64) 0 5 st) (fun (r11 : Int32) =>
   (if r11 = 0 then (
    k7)
   else (
    bo (j_X6_toldOf F a1 a2 st) (fun (r14 : Int32) =>
    bd (j_X6_tell F r14 st) (fun (r16 : Int32) (s17 : sw_St) =>
    k5 r16 s17))))))))))
set_option maxHeartbeats 4000000 in
set_option maxRecDepth 100000 in
theorem c_X6_stranger (F : Nat) (a1 : Int32) (a2 : Int32) (st : sw_St) {r : Int32} {st1 : sw_St} (h : j_X6_stranger F a1 a2 st = some (r, st1)) : sw_CI yX6_stranger (.code yX6_stranger cX6_stranger 3 (some .int)) 5 (fun g => [.ref (g.1 63), .int a1, .int a2]) st r st1 := by
  refine sw_entI RX6 (fun g => [(0, .ref (g.1 63)), (1, .int a1), (2, .int a2)]) (by decide) rfl (fun _ => Nat.le_of_ble_eq_true rfl) (fun _ => rfl) ?_
  intro p l e s m args below meth c g X hr hlk
  unfold j_X6_stranger at h
  refine sw_aload_n X 0 rfl rfl dX6_stranger_0 ?_
  refine sw_iload_n X 1 rfl rfl dX6_stranger_1 ?_
  obtain ⟨r2, c1, h⟩ := bo_E h
  refine sw_callVI X (o := 63) (As := (fun g => [.int a1])) sw_cl6 (show sw_kd 63 = 6 from rfl) ws_X6_isStranger (by omega) (c_X6_isStranger F a1 st c1) rfl rfl (Nat.le_of_ble_eq_true rfl) wm_X6_155 dX6_stranger_2 ?_
  refine jn2_E (fun (x3 : Int32) (s4 : sw_St) => sw_V p l e 5 s m args below meth c g (sw_A g s.heap.size) (sw_QI below g args s r st1) 3 34 [] [.int x3] s4) h (fun x3 s4 h => ?_) (fun k5 J6 h => ?_)
  · exact sw_iret X hr hlk dX6_stranger_34 h
  · refine jn0_E (sw_V p l e 5 s m args below meth c g (sw_A g s.heap.size) (sw_QI below g args s r st1) 3 33 [] [] st) h (fun h => ?_) (fun k7 J8 h => ?_)
    · refine sw_iconst X (v := (-1)) (by decide) dX6_stranger_33 ?_
      exact J6 _ _ h
    · refine sw_if_eq X 33 (by decide) dX6_stranger_5 (fun q9 => ?_) (fun q9 => ?_)
      · have h := ite_T h q9
        refine sw_sub [] rfl ?_
        exact J8  h
      · have h := ite_F h q9
        refine sw_iload_n X 2 rfl rfl dX6_stranger_8 ?_
        refine sw_i2l X dX6_stranger_9 ?_
        refine sw_lconst X (v := 0) (by decide) dX6_stranger_10 ?_
        refine sw_ldc2 X (v := 5) wl_X6_61 dX6_stranger_11 ?_
        obtain ⟨r11, c10, h⟩ := bo_E h
        refine sw_callSI X (As := (fun g => [.long ((a2 : Int32).toInt64), .long 0, .long 5])) ws_X6_in (by omega) (c_X6_in F ((a2 : Int32).toInt64) 0 5 st c10) rfl rfl (Nat.le_of_ble_eq_true rfl) wm_X6_63 dX6_stranger_14 ?_
        refine sw_if_eq X 33 (by decide) dX6_stranger_17 (fun q12 => ?_) (fun q12 => ?_)
        · have h := ite_T h q12
          refine sw_sub [] rfl ?_
          exact J8  h
        · have h := ite_F h q12
          refine sw_aload_n X 0 rfl rfl dX6_stranger_20 ?_
          refine sw_aload_n X 0 rfl rfl dX6_stranger_21 ?_
          refine sw_iload_n X 1 rfl rfl dX6_stranger_22 ?_
          refine sw_iload_n X 2 rfl rfl dX6_stranger_23 ?_
          obtain ⟨r14, c13, h⟩ := bo_E h
          refine sw_callVI X (o := 63) (As := (fun g => [.int a1, .int a2])) sw_cl6 (show sw_kd 63 = 6 from rfl) ws_X6_toldOf (by omega) (c_X6_toldOf F a1 a2 st c13) rfl rfl (Nat.le_of_ble_eq_true rfl) wm_X6_158 dX6_stranger_24 ?_
          obtain ⟨r16, s17, c15, h⟩ := bd_E h
          refine sw_callVI X (o := 63) (As := (fun g => [.int r14])) sw_cl6 (show sw_kd 63 = 6 from rfl) ws_X6_tell (by omega) (c_X6_tell F r14 st c15) rfl rfl (Nat.le_of_ble_eq_true rfl) wm_X6_85 dX6_stranger_27 ?_
          refine sw_goto X 34 (by decide) dX6_stranger_30 ?_
          refine sw_sub [] rfl ?_
          exact J6 _ _ h
theorem dX6_isOf_0 : decode cX6_isOf 0 = .ok (.aload_n 0, 1) := by decide +kernel
theorem dX6_isOf_1 : decode cX6_isOf 1 = .ok (.getfield 13, 3) := by decide +kernel
theorem dX6_isOf_4 : decode cX6_isOf 4 = .ok (.iload_n 1, 1) := by decide +kernel
theorem dX6_isOf_5 : decode cX6_isOf 5 = .ok (.iaload, 1) := by decide +kernel
theorem dX6_isOf_6 : decode cX6_isOf 6 = .ok (.iload_n 2, 1) := by decide +kernel
theorem dX6_isOf_7 : decode cX6_isOf 7 = .ok (.if_icmp .eq 33, 3) := by decide +kernel
theorem dX6_isOf_10 : decode cX6_isOf 10 = .ok (.iload_n 2, 1) := by decide +kernel
theorem dX6_isOf_11 : decode cX6_isOf 11 = .ok (.iconst 1, 1) := by decide +kernel
theorem dX6_isOf_12 : decode cX6_isOf 12 = .ok (.if_icmp .ne 13, 3) := by decide +kernel
theorem dX6_isOf_15 : decode cX6_isOf 15 = .ok (.aload_n 0, 1) := by decide +kernel
theorem dX6_isOf_16 : decode cX6_isOf 16 = .ok (.getfield 13, 3) := by decide +kernel
theorem dX6_isOf_19 : decode cX6_isOf 19 = .ok (.iload_n 1, 1) := by decide +kernel
theorem dX6_isOf_20 : decode cX6_isOf 20 = .ok (.iaload, 1) := by decide +kernel
theorem dX6_isOf_21 : decode cX6_isOf 21 = .ok (.iconst 4, 1) := by decide +kernel
theorem dX6_isOf_22 : decode cX6_isOf 22 = .ok (.if_icmp .eq 18, 3) := by decide +kernel
theorem dX6_isOf_25 : decode cX6_isOf 25 = .ok (.iload_n 2, 1) := by decide +kernel
theorem dX6_isOf_26 : decode cX6_isOf 26 = .ok (.iconst 2, 1) := by decide +kernel
theorem dX6_isOf_27 : decode cX6_isOf 27 = .ok (.if_icmp .ne 17, 3) := by decide +kernel
theorem dX6_isOf_30 : decode cX6_isOf 30 = .ok (.aload_n 0, 1) := by decide +kernel
theorem dX6_isOf_31 : decode cX6_isOf 31 = .ok (.getfield 13, 3) := by decide +kernel
theorem dX6_isOf_34 : decode cX6_isOf 34 = .ok (.iload_n 1, 1) := by decide +kernel
theorem dX6_isOf_35 : decode cX6_isOf 35 = .ok (.iaload, 1) := by decide +kernel
theorem dX6_isOf_36 : decode cX6_isOf 36 = .ok (.iconst 5, 1) := by decide +kernel
theorem dX6_isOf_37 : decode cX6_isOf 37 = .ok (.if_icmp .ne 7, 3) := by decide +kernel
theorem dX6_isOf_40 : decode cX6_isOf 40 = .ok (.iconst 1, 1) := by decide +kernel
theorem dX6_isOf_41 : decode cX6_isOf 41 = .ok (.goto 4, 3) := by decide +kernel
theorem dX6_isOf_44 : decode cX6_isOf 44 = .ok (.iconst 0, 1) := by decide +kernel
theorem dX6_isOf_45 : decode cX6_isOf 45 = .ok (.ireturn, 1) := by decide +kernel
def j_X6_isOf (F : Nat) (a1 : Int32) (a2 : Int32) (st : sw_St) : Option Int32 :=
bnd a1 6 (
jn (fun (x2 : Int32) => 
  grd (x2 = 0 ∨ x2 = 1) (some (x2 : Int32))) (fun k3 =>
 jn (
   k3 1) (fun k6 =>
  (if (st.1 65 (a1 : Int32).toNatClampNeg) = a2 then (
   k6)
  else (
   jn (
     jn (
       k3 0) (fun k11 =>
      (if a2 = 2 then (
       bnd a1 6 (
       (if (st.1 65 (a1 : Int32).toNatClampNeg) = 5 then (
        k6)
       else (
        k11))))
      else (
       k11)))) (fun k9 =>
    (if a2 = 1 then (
     bnd a1 6 (
     (if (st.1 65 (a1 : Int32).toNatClampNeg) = 4 then (
      k6)
     else (
      k9))))
    else (
     k9))))))))
set_option maxHeartbeats 4000000 in
set_option maxRecDepth 100000 in
theorem c_X6_isOf (F : Nat) (a1 : Int32) (a2 : Int32) (st : sw_St) {r : Int32} (h : j_X6_isOf F a1 a2 st = some r) : sw_CI yX6_isOf (.code yX6_isOf cX6_isOf 3 (some .boolean)) 1 (fun g => [.ref (g.1 63), .int a1, .int a2]) st r st := by
  refine sw_entI RX6 (fun g => [(0, .ref (g.1 63)), (1, .int a1), (2, .int a2)]) (by decide) rfl (fun _ => Nat.le_of_ble_eq_true rfl) (fun _ => rfl) ?_
  intro p l e s m args below meth c g X hr hlk
  unfold j_X6_isOf at h
  refine sw_aload_n X 0 rfl rfl dX6_isOf_0 ?_
  refine sw_getR X sw_cl6 (show sw_kd 63 = 6 from rfl) (k := 2) rfl (by decide) (o1 := 65) rfl wf_X6_13 dX6_isOf_1 ?_
  refine sw_iload_n X 1 rfl rfl dX6_isOf_4 ?_
  obtain ⟨q1, h⟩ := bnd_E h
  refine sw_iald X (show sw_kd 65 = 8 from rfl) (n := 6) rfl q1 dX6_isOf_5 ?_
  refine sw_iload_n X 2 rfl rfl dX6_isOf_6 ?_
  refine jn1_E (fun (x2 : Int32) => sw_V p l e 1 s m args below meth c g (sw_A g s.heap.size) (sw_QI below g args s r st) 3 45 [] [.int x2] st) h (fun x2 h => ?_) (fun k3 J4 h => ?_)
  · obtain ⟨q5, h⟩ := grd_E h
    exact sw_zret X hr hlk q5 dX6_isOf_45 (by cases h; rfl)
  · refine jn0_E (sw_V p l e 1 s m args below meth c g (sw_A g s.heap.size) (sw_QI below g args s r st) 3 40 [] [] st) h (fun h => ?_) (fun k6 J7 h => ?_)
    · refine sw_iconst X (v := 1) (by decide) dX6_isOf_40 ?_
      refine sw_goto X 45 (by decide) dX6_isOf_41 ?_
      exact J4 _ h
    · refine sw_icmp_eq X 40 (by decide) dX6_isOf_7 (fun q8 => ?_) (fun q8 => ?_)
      · have h := ite_T h q8
        refine sw_sub [] rfl ?_
        exact J7  h
      · have h := ite_F h q8
        refine sw_iload_n X 2 rfl rfl dX6_isOf_10 ?_
        refine sw_iconst X (v := 1) (by decide) dX6_isOf_11 ?_
        refine jn0_E (sw_V p l e 1 s m args below meth c g (sw_A g s.heap.size) (sw_QI below g args s r st) 3 25 [(0, .ref (g.1 63)), (1, .int a1), (2, .int a2)] [] st) h (fun h => ?_) (fun k9 J10 h => ?_)
        · refine sw_iload_n X 2 rfl rfl dX6_isOf_25 ?_
          refine sw_iconst X (v := 2) (by decide) dX6_isOf_26 ?_
          refine jn0_E (sw_V p l e 1 s m args below meth c g (sw_A g s.heap.size) (sw_QI below g args s r st) 3 44 [] [] st) h (fun h => ?_) (fun k11 J12 h => ?_)
          · refine sw_iconst X (v := 0) (by decide) dX6_isOf_44 ?_
            exact J4 _ h
          · refine sw_icmp_ne X 44 (by decide) dX6_isOf_27 (fun q13 => ?_) (fun q13 => ?_)
            · have h := ite_F h q13
              refine sw_sub [] rfl ?_
              exact J12  h
            · have h := ite_T h q13
              refine sw_aload_n X 0 rfl rfl dX6_isOf_30 ?_
              refine sw_getR X sw_cl6 (show sw_kd 63 = 6 from rfl) (k := 2) rfl (by decide) (o1 := 65) rfl wf_X6_13 dX6_isOf_31 ?_
              refine sw_iload_n X 1 rfl rfl dX6_isOf_34 ?_
              obtain ⟨q14, h⟩ := bnd_E h
              refine sw_iald X (show sw_kd 65 = 8 from rfl) (n := 6) rfl q14 dX6_isOf_35 ?_
              refine sw_iconst X (v := 5) (by decide) dX6_isOf_36 ?_
              refine sw_icmp_ne X 44 (by decide) dX6_isOf_37 (fun q15 => ?_) (fun q15 => ?_)
              · have h := ite_F h q15
                refine sw_sub [] rfl ?_
                exact J12  h
              · have h := ite_T h q15
                refine sw_sub [] rfl ?_
                exact J7  h
        · refine sw_icmp_ne X 25 (by decide) dX6_isOf_12 (fun q16 => ?_) (fun q16 => ?_)
          · have h := ite_F h q16
            exact J10  h
          · have h := ite_T h q16
            refine sw_aload_n X 0 rfl rfl dX6_isOf_15 ?_
            refine sw_getR X sw_cl6 (show sw_kd 63 = 6 from rfl) (k := 2) rfl (by decide) (o1 := 65) rfl wf_X6_13 dX6_isOf_16 ?_
            refine sw_iload_n X 1 rfl rfl dX6_isOf_19 ?_
            obtain ⟨q17, h⟩ := bnd_E h
            refine sw_iald X (show sw_kd 65 = 8 from rfl) (n := 6) rfl q17 dX6_isOf_20 ?_
            refine sw_iconst X (v := 4) (by decide) dX6_isOf_21 ?_
            refine sw_icmp_eq X 40 (by decide) dX6_isOf_22 (fun q18 => ?_) (fun q18 => ?_)
            · have h := ite_T h q18
              refine sw_sub [] rfl ?_
              exact J7  h
            · have h := ite_F h q18
              exact J10  h
theorem dX6_mark_0 : decode cX6_mark 0 = .ok (.aload_n 0, 1) := by decide +kernel
theorem dX6_mark_1 : decode cX6_mark 1 = .ok (.iload_n 1, 1) := by decide +kernel
theorem dX6_mark_2 : decode cX6_mark 2 = .ok (.invokevirtual 155, 3) := by decide +kernel
theorem dX6_mark_5 : decode cX6_mark 5 = .ok (.ifCond .eq 15, 3) := by decide +kernel
theorem dX6_mark_8 : decode cX6_mark 8 = .ok (.iload_n 2, 1) := by decide +kernel
theorem dX6_mark_9 : decode cX6_mark 9 = .ok (.i2l, 1) := by decide +kernel
theorem dX6_mark_10 : decode cX6_mark 10 = .ok (.lconst 1, 1) := by decide +kernel
theorem dX6_mark_11 : decode cX6_mark 11 = .ok (.ldc2_w 61, 3) := by decide +kernel
theorem dX6_mark_14 : decode cX6_mark 14 = .ok (.invokestatic 63, 3) := by decide +kernel
theorem dX6_mark_17 : decode cX6_mark 17 = .ok (.ifCond .ne 5, 3) := by decide +kernel
theorem dX6_mark_20 : decode cX6_mark 20 = .ok (.iconst (-1), 1) := by decide +kernel
theorem dX6_mark_21 : decode cX6_mark 21 = .ok (.ireturn, 1) := by decide +kernel
theorem dX6_mark_22 : decode cX6_mark 22 = .ok (.aload_n 0, 1) := by decide +kernel
theorem dX6_mark_23 : decode cX6_mark 23 = .ok (.iload_n 1, 1) := by decide +kernel
theorem dX6_mark_24 : decode cX6_mark 24 = .ok (.iload_n 2, 1) := by decide +kernel
theorem dX6_mark_25 : decode cX6_mark 25 = .ok (.invokevirtual 161, 3) := by decide +kernel
theorem dX6_mark_28 : decode cX6_mark 28 = .ok (.ifCond .ne 9, 3) := by decide +kernel
theorem dX6_mark_31 : decode cX6_mark 31 = .ok (.aload_n 0, 1) := by decide +kernel
theorem dX6_mark_32 : decode cX6_mark 32 = .ok (.iconst 3, 1) := by decide +kernel
theorem dX6_mark_33 : decode cX6_mark 33 = .ok (.invokevirtual 73, 3) := by decide +kernel
theorem dX6_mark_36 : decode cX6_mark 36 = .ok (.ireturn, 1) := by decide +kernel
theorem dX6_mark_37 : decode cX6_mark 37 = .ok (.iload_n 2, 1) := by decide +kernel
theorem dX6_mark_38 : decode cX6_mark 38 = .ok (.tableswitch 90 1 4 #[30, 39, 50, 65], 30) := by decide +kernel
theorem dX6_mark_68 : decode cX6_mark 68 = .ok (.aload_n 0, 1) := by decide +kernel
theorem dX6_mark_69 : decode cX6_mark 69 = .ok (.getfield 16, 3) := by decide +kernel
theorem dX6_mark_72 : decode cX6_mark 72 = .ok (.iload_n 1, 1) := by decide +kernel
theorem dX6_mark_73 : decode cX6_mark 73 = .ok (.iaload, 1) := by decide +kernel
theorem dX6_mark_74 : decode cX6_mark 74 = .ok (.iconst 2, 1) := by decide +kernel
theorem dX6_mark_75 : decode cX6_mark 75 = .ok (.idiv, 1) := by decide +kernel
theorem dX6_mark_76 : decode cX6_mark 76 = .ok (.ireturn, 1) := by decide +kernel
theorem dX6_mark_77 : decode cX6_mark 77 = .ok (.iconst 4, 1) := by decide +kernel
theorem dX6_mark_78 : decode cX6_mark 78 = .ok (.aload_n 0, 1) := by decide +kernel
theorem dX6_mark_79 : decode cX6_mark 79 = .ok (.getfield 16, 3) := by decide +kernel
theorem dX6_mark_82 : decode cX6_mark 82 = .ok (.iload_n 1, 1) := by decide +kernel
theorem dX6_mark_83 : decode cX6_mark 83 = .ok (.iaload, 1) := by decide +kernel
theorem dX6_mark_84 : decode cX6_mark 84 = .ok (.iconst 4, 1) := by decide +kernel
theorem dX6_mark_85 : decode cX6_mark 85 = .ok (.irem, 1) := by decide +kernel
theorem dX6_mark_86 : decode cX6_mark 86 = .ok (.isub, 1) := by decide +kernel
theorem dX6_mark_87 : decode cX6_mark 87 = .ok (.ireturn, 1) := by decide +kernel
theorem dX6_mark_88 : decode cX6_mark 88 = .ok (.aload_n 0, 1) := by decide +kernel
theorem dX6_mark_89 : decode cX6_mark 89 = .ok (.iconst 1, 1) := by decide +kernel
theorem dX6_mark_90 : decode cX6_mark 90 = .ok (.aload_n 0, 1) := by decide +kernel
theorem dX6_mark_91 : decode cX6_mark 91 = .ok (.getfield 136, 3) := by decide +kernel
theorem dX6_mark_94 : decode cX6_mark 94 = .ok (.ishl, 1) := by decide +kernel
theorem dX6_mark_95 : decode cX6_mark 95 = .ok (.iconst 1, 1) := by decide +kernel
theorem dX6_mark_96 : decode cX6_mark 96 = .ok (.isub, 1) := by decide +kernel
theorem dX6_mark_97 : decode cX6_mark 97 = .ok (.invokevirtual 143, 3) := by decide +kernel
theorem dX6_mark_100 : decode cX6_mark 100 = .ok (.iconst 1, 1) := by decide +kernel
theorem dX6_mark_101 : decode cX6_mark 101 = .ok (.isub, 1) := by decide +kernel
theorem dX6_mark_102 : decode cX6_mark 102 = .ok (.ireturn, 1) := by decide +kernel
theorem dX6_mark_103 : decode cX6_mark 103 = .ok (.aload_n 0, 1) := by decide +kernel
theorem dX6_mark_104 : decode cX6_mark 104 = .ok (.getfield 7, 3) := by decide +kernel
theorem dX6_mark_107 : decode cX6_mark 107 = .ok (.iconst 1, 1) := by decide +kernel
theorem dX6_mark_108 : decode cX6_mark 108 = .ok (.iaload, 1) := by decide +kernel
theorem dX6_mark_109 : decode cX6_mark 109 = .ok (.bipush 40, 2) := by decide +kernel
theorem dX6_mark_111 : decode cX6_mark 111 = .ok (.if_icmp .le 15, 3) := by decide +kernel
theorem dX6_mark_114 : decode cX6_mark 114 = .ok (.aload_n 0, 1) := by decide +kernel
theorem dX6_mark_115 : decode cX6_mark 115 = .ok (.getfield 7, 3) := by decide +kernel
theorem dX6_mark_118 : decode cX6_mark 118 = .ok (.iconst 1, 1) := by decide +kernel
theorem dX6_mark_119 : decode cX6_mark 119 = .ok (.iaload, 1) := by decide +kernel
theorem dX6_mark_120 : decode cX6_mark 120 = .ok (.bipush 40, 2) := by decide +kernel
theorem dX6_mark_122 : decode cX6_mark 122 = .ok (.isub, 1) := by decide +kernel
theorem dX6_mark_123 : decode cX6_mark 123 = .ok (.goto 4, 3) := by decide +kernel
theorem dX6_mark_126 : decode cX6_mark 126 = .ok (.iconst 0, 1) := by decide +kernel
theorem dX6_mark_127 : decode cX6_mark 127 = .ok (.ireturn, 1) := by decide +kernel
theorem dX6_mark_128 : decode cX6_mark 128 = .ok (.aload_n 0, 1) := by decide +kernel
theorem dX6_mark_129 : decode cX6_mark 129 = .ok (.getfield 7, 3) := by decide +kernel
theorem dX6_mark_132 : decode cX6_mark 132 = .ok (.iconst 5, 1) := by decide +kernel
theorem dX6_mark_133 : decode cX6_mark 133 = .ok (.iaload, 1) := by decide +kernel
theorem dX6_mark_134 : decode cX6_mark 134 = .ok (.iconst 1, 1) := by decide +kernel
theorem dX6_mark_135 : decode cX6_mark 135 = .ok (.iload_n 1, 1) := by decide +kernel
theorem dX6_mark_136 : decode cX6_mark 136 = .ok (.ishl, 1) := by decide +kernel
theorem dX6_mark_137 : decode cX6_mark 137 = .ok (.iconst (-1), 1) := by decide +kernel
theorem dX6_mark_138 : decode cX6_mark 138 = .ok (.ixor, 1) := by decide +kernel
theorem dX6_mark_139 : decode cX6_mark 139 = .ok (.iand, 1) := by decide +kernel
theorem dX6_mark_140 : decode cX6_mark 140 = .ok (.invokestatic 146, 3) := by decide +kernel
theorem dX6_mark_143 : decode cX6_mark 143 = .ok (.ireturn, 1) := by decide +kernel
def j_X6_mark (F : Nat) (a1 : Int32) (a2 : Int32) (st : sw_St) : Option (Int32 × sw_St) :=
bo (j_X6_isStranger F a1 st) (fun (r2 : Int32) =>
jn (
  some (((-1) : Int32), st)) (fun k3 =>
 (if r2 = 0 then (
  k3)
 else (
  bo (j_X6_in F ((a2 : Int32).toInt64) 1 5 st) (fun (r7 : Int32) =>
  (if r7 = 0 then (
   k3)
  else (
   bo (j_X6_isOf F a1 a2 st) (fun (r10 : Int32) =>
   (if r10 = 0 then (
    bd (j_X6_find F 3 st) (fun (r30 : Int32) (s31 : sw_St) =>
    some ((r30 : Int32), s31)))
   else (
    (if a2 = 1 then (
     bnd a1 6 (
     some (((st.1 66 (a1 : Int32).toNatClampNeg) / 2 : Int32), st)))
    else (
     (if a2 = 2 then (
      bnd a1 6 (
      some ((4 - ((st.1 66 (a1 : Int32).toNatClampNeg) - (st.1 66 (a1 : Int32).toNatClampNeg) / 4 * 4) : Int32), st)))
     else (
      (if a2 = 3 then (
       bo (j_X6_pilgrims F ((1 <<< ((st.1 63 1) &&& 31)) - 1) st) (fun (r18 : Int32) =>
       some ((r18 - 1 : Int32), st)))
      else (
       (if a2 = 4 then (
        jn (fun (x21 : Int32) => 
          some ((x21 : Int32), st)) (fun k22 =>
         (if (st.1 64 1) ≤ 40 then (
          k22 0)
         else (
          k22 ((st.1 64 1) - 40)))))
       else (
        bo (j_X6_bits F ((st.1 64 5) &&& ((1 <<< (a1 &&& 31)) ^^^ (-1))) st) (fun (r28 : Int32) =>
        some ((r28 : Int32), st))))))))))))))))))))
set_option maxHeartbeats 4000000 in
set_option maxRecDepth 100000 in
theorem c_X6_mark (F : Nat) (a1 : Int32) (a2 : Int32) (st : sw_St) {r : Int32} {st1 : sw_St} (h : j_X6_mark F a1 a2 st = some (r, st1)) : sw_CI yX6_mark (.code yX6_mark cX6_mark 3 (some .int)) 3 (fun g => [.ref (g.1 63), .int a1, .int a2]) st r st1 := by
  refine sw_entI RX6 (fun g => [(0, .ref (g.1 63)), (1, .int a1), (2, .int a2)]) (by decide) rfl (fun _ => Nat.le_of_ble_eq_true rfl) (fun _ => rfl) ?_
  intro p l e s m args below meth c g X hr hlk
  unfold j_X6_mark at h
  refine sw_aload_n X 0 rfl rfl dX6_mark_0 ?_
  refine sw_iload_n X 1 rfl rfl dX6_mark_1 ?_
  obtain ⟨r2, c1, h⟩ := bo_E h
  refine sw_callVI X (o := 63) (As := (fun g => [.int a1])) sw_cl6 (show sw_kd 63 = 6 from rfl) ws_X6_isStranger (by omega) (c_X6_isStranger F a1 st c1) rfl rfl (Nat.le_of_ble_eq_true rfl) wm_X6_155 dX6_mark_2 ?_
  refine jn0_E (sw_V p l e 3 s m args below meth c g (sw_A g s.heap.size) (sw_QI below g args s r st1) 3 20 [] [] st) h (fun h => ?_) (fun k3 J4 h => ?_)
  · refine sw_iconst X (v := (-1)) (by decide) dX6_mark_20 ?_
    exact sw_iret X hr hlk dX6_mark_21 h
  · refine sw_if_eq X 20 (by decide) dX6_mark_5 (fun q5 => ?_) (fun q5 => ?_)
    · have h := ite_T h q5
      refine sw_sub [] rfl ?_
      exact J4  h
    · have h := ite_F h q5
      refine sw_iload_n X 2 rfl rfl dX6_mark_8 ?_
      refine sw_i2l X dX6_mark_9 ?_
      refine sw_lconst X (v := 1) (by decide) dX6_mark_10 ?_
      refine sw_ldc2 X (v := 5) wl_X6_61 dX6_mark_11 ?_
      obtain ⟨r7, c6, h⟩ := bo_E h
      refine sw_callSI X (As := (fun g => [.long ((a2 : Int32).toInt64), .long 1, .long 5])) ws_X6_in (by omega) (c_X6_in F ((a2 : Int32).toInt64) 1 5 st c6) rfl rfl (Nat.le_of_ble_eq_true rfl) wm_X6_63 dX6_mark_14 ?_
      refine sw_if_ne X 22 (by decide) dX6_mark_17 (fun q8 => ?_) (fun q8 => ?_)
      · have h := ite_F h q8
        refine sw_aload_n X 0 rfl rfl dX6_mark_22 ?_
        refine sw_iload_n X 1 rfl rfl dX6_mark_23 ?_
        refine sw_iload_n X 2 rfl rfl dX6_mark_24 ?_
        obtain ⟨r10, c9, h⟩ := bo_E h
        refine sw_callVI X (o := 63) (As := (fun g => [.int a1, .int a2])) sw_cl6 (show sw_kd 63 = 6 from rfl) ws_X6_isOf (by omega) (c_X6_isOf F a1 a2 st c9) rfl rfl (Nat.le_of_ble_eq_true rfl) wm_X6_161 dX6_mark_25 ?_
        refine sw_if_ne X 37 (by decide) dX6_mark_28 (fun q11 => ?_) (fun q11 => ?_)
        · have h := ite_F h q11
          refine sw_iload_n X 2 rfl rfl dX6_mark_37 ?_
          by_cases q12 : a2 = 1
          · have h := ite_T h q12
            refine sw_tabIn X (k := 1) (off := 30) 68 q12 (by decide) (by decide) (by decide) (by decide) dX6_mark_38 ?_
            refine sw_aload_n X 0 rfl rfl dX6_mark_68 ?_
            refine sw_getR X sw_cl6 (show sw_kd 63 = 6 from rfl) (k := 3) rfl (by decide) (o1 := 66) rfl wf_X6_16 dX6_mark_69 ?_
            refine sw_iload_n X 1 rfl rfl dX6_mark_72 ?_
            obtain ⟨q13, h⟩ := bnd_E h
            refine sw_iald X (show sw_kd 66 = 8 from rfl) (n := 6) rfl q13 dX6_mark_73 ?_
            refine sw_iconst X (v := 2) (by decide) dX6_mark_74 ?_
            refine sw_idiv X (by decide) dX6_mark_75 ?_
            exact sw_iret X hr hlk dX6_mark_76 h
          · have h := ite_F h q12
            by_cases q14 : a2 = 2
            · have h := ite_T h q14
              refine sw_tabIn X (k := 2) (off := 39) 77 q14 (by decide) (by decide) (by decide) (by decide) dX6_mark_38 ?_
              refine sw_iconst X (v := 4) (by decide) dX6_mark_77 ?_
              refine sw_aload_n X 0 rfl rfl dX6_mark_78 ?_
              refine sw_getR X sw_cl6 (show sw_kd 63 = 6 from rfl) (k := 3) rfl (by decide) (o1 := 66) rfl wf_X6_16 dX6_mark_79 ?_
              refine sw_iload_n X 1 rfl rfl dX6_mark_82 ?_
              obtain ⟨q15, h⟩ := bnd_E h
              refine sw_iald X (show sw_kd 66 = 8 from rfl) (n := 6) rfl q15 dX6_mark_83 ?_
              refine sw_iconst X (v := 4) (by decide) dX6_mark_84 ?_
              refine sw_irem X (by decide) dX6_mark_85 ?_
              refine sw_isub X dX6_mark_86 ?_
              exact sw_iret X hr hlk dX6_mark_87 h
            · have h := ite_F h q14
              by_cases q16 : a2 = 3
              · have h := ite_T h q16
                refine sw_tabIn X (k := 3) (off := 50) 88 q16 (by decide) (by decide) (by decide) (by decide) dX6_mark_38 ?_
                refine sw_aload_n X 0 rfl rfl dX6_mark_88 ?_
                refine sw_iconst X (v := 1) (by decide) dX6_mark_89 ?_
                refine sw_aload_n X 0 rfl rfl dX6_mark_90 ?_
                refine sw_getI X sw_cl6 (show sw_kd 63 = 6 from rfl) (k := 1) rfl (by decide) wf_X6_136 dX6_mark_91 ?_
                refine sw_ishl X dX6_mark_94 ?_
                refine sw_iconst X (v := 1) (by decide) dX6_mark_95 ?_
                refine sw_isub X dX6_mark_96 ?_
                obtain ⟨r18, c17, h⟩ := bo_E h
                refine sw_callVI X (o := 63) (As := (fun g => [.int ((1 <<< ((st.1 63 1) &&& 31)) - 1)])) sw_cl6 (show sw_kd 63 = 6 from rfl) ws_X6_pilgrims (by omega) (c_X6_pilgrims F ((1 <<< ((st.1 63 1) &&& 31)) - 1) st c17) rfl rfl (Nat.le_of_ble_eq_true rfl) wm_X6_143 dX6_mark_97 ?_
                refine sw_iconst X (v := 1) (by decide) dX6_mark_100 ?_
                refine sw_isub X dX6_mark_101 ?_
                exact sw_iret X hr hlk dX6_mark_102 h
              · have h := ite_F h q16
                by_cases q19 : a2 = 4
                · have h := ite_T h q19
                  refine sw_tabIn X (k := 4) (off := 65) 103 q19 (by decide) (by decide) (by decide) (by decide) dX6_mark_38 ?_
                  refine sw_aload_n X 0 rfl rfl dX6_mark_103 ?_
                  refine sw_getR X sw_cl6 (show sw_kd 63 = 6 from rfl) (k := 0) rfl (by decide) (o1 := 64) rfl wf_X6_7 dX6_mark_104 ?_
                  refine sw_iconst X (v := 1) (by decide) dX6_mark_107 ?_
                  refine sw_iald X (show sw_kd 64 = 8 from rfl) (n := 835) rfl (i := 1) (by unfold vp_in; decide) dX6_mark_108 ?_
                  refine sw_bipush X (v := 40) (by decide) dX6_mark_109 ?_
                  refine jn1_E (fun (x21 : Int32) => sw_V p l e 3 s m args below meth c g (sw_A g s.heap.size) (sw_QI below g args s r st1) 3 127 [] [.int x21] st) h (fun x21 h => ?_) (fun k22 J23 h => ?_)
                  · exact sw_iret X hr hlk dX6_mark_127 h
                  · refine sw_icmp_le X 126 (by decide) dX6_mark_111 (fun q24 => ?_) (fun q24 => ?_)
                    · have h := ite_T h q24
                      refine sw_iconst X (v := 0) (by decide) dX6_mark_126 ?_
                      refine sw_sub [] rfl ?_
                      exact J23 _ h
                    · have h := ite_F h q24
                      refine sw_aload_n X 0 rfl rfl dX6_mark_114 ?_
                      refine sw_getR X sw_cl6 (show sw_kd 63 = 6 from rfl) (k := 0) rfl (by decide) (o1 := 64) rfl wf_X6_7 dX6_mark_115 ?_
                      refine sw_iconst X (v := 1) (by decide) dX6_mark_118 ?_
                      refine sw_iald X (show sw_kd 64 = 8 from rfl) (n := 835) rfl (i := 1) (by unfold vp_in; decide) dX6_mark_119 ?_
                      refine sw_bipush X (v := 40) (by decide) dX6_mark_120 ?_
                      refine sw_isub X dX6_mark_122 ?_
                      refine sw_goto X 127 (by decide) dX6_mark_123 ?_
                      refine sw_sub [] rfl ?_
                      exact J23 _ h
                · have h := ite_F h q19
                  have n0 := lv_neT q12 (show (1 : Int32).toInt = 1 by decide)
                  have n1 := lv_neT q14 (show (2 : Int32).toInt = 2 by decide)
                  have n2 := lv_neT q16 (show (3 : Int32).toInt = 3 by decide)
                  have n3 := lv_neT q19 (show (4 : Int32).toInt = 4 by decide)
                  refine sw_tabOut X 128 (by omega) (by decide) dX6_mark_38 ?_
                  refine sw_aload_n X 0 rfl rfl dX6_mark_128 ?_
                  refine sw_getR X sw_cl6 (show sw_kd 63 = 6 from rfl) (k := 0) rfl (by decide) (o1 := 64) rfl wf_X6_7 dX6_mark_129 ?_
                  refine sw_iconst X (v := 5) (by decide) dX6_mark_132 ?_
                  refine sw_iald X (show sw_kd 64 = 8 from rfl) (n := 835) rfl (i := 5) (by unfold vp_in; decide) dX6_mark_133 ?_
                  refine sw_iconst X (v := 1) (by decide) dX6_mark_134 ?_
                  refine sw_iload_n X 1 rfl rfl dX6_mark_135 ?_
                  refine sw_ishl X dX6_mark_136 ?_
                  refine sw_iconst X (v := (-1)) (by decide) dX6_mark_137 ?_
                  refine sw_ixor X dX6_mark_138 ?_
                  refine sw_iand X dX6_mark_139 ?_
                  obtain ⟨r28, c27, h⟩ := bo_E h
                  refine sw_callSI X (As := (fun g => [.int ((st.1 64 5) &&& ((1 <<< (a1 &&& 31)) ^^^ (-1)))])) ws_X6_bits (by omega) (c_X6_bits F ((st.1 64 5) &&& ((1 <<< (a1 &&& 31)) ^^^ (-1))) st c27) rfl rfl (Nat.le_of_ble_eq_true rfl) wm_X6_146 dX6_mark_140 ?_
                  exact sw_iret X hr hlk dX6_mark_143 h
        · have h := ite_T h q11
          refine sw_aload_n X 0 rfl rfl dX6_mark_31 ?_
          refine sw_iconst X (v := 3) (by decide) dX6_mark_32 ?_
          obtain ⟨r30, s31, c29, h⟩ := bd_E h
          refine sw_callVI X (o := 63) (As := (fun g => [.int 3])) sw_cl6 (show sw_kd 63 = 6 from rfl) ws_X6_find (by omega) (c_X6_find F 3 st c29) rfl rfl (Nat.le_of_ble_eq_true rfl) wm_X6_73 dX6_mark_33 ?_
          exact sw_iret X hr hlk dX6_mark_36 h
      · have h := ite_T h q8
        refine sw_sub [] rfl ?_
        exact J4  h
theorem dX6_gate_0 : decode cX6_gate 0 = .ok (.aload_n 0, 1) := by decide +kernel
theorem dX6_gate_1 : decode cX6_gate 1 = .ok (.iload_n 1, 1) := by decide +kernel
theorem dX6_gate_2 : decode cX6_gate 2 = .ok (.invokevirtual 155, 3) := by decide +kernel
theorem dX6_gate_5 : decode cX6_gate 5 = .ok (.ifCond .ne 5, 3) := by decide +kernel
theorem dX6_gate_8 : decode cX6_gate 8 = .ok (.iconst (-1), 1) := by decide +kernel
theorem dX6_gate_9 : decode cX6_gate 9 = .ok (.ireturn, 1) := by decide +kernel
theorem dX6_gate_10 : decode cX6_gate 10 = .ok (.aload_n 0, 1) := by decide +kernel
theorem dX6_gate_11 : decode cX6_gate 11 = .ok (.getfield 7, 3) := by decide +kernel
theorem dX6_gate_14 : decode cX6_gate 14 = .ok (.iconst 0, 1) := by decide +kernel
theorem dX6_gate_15 : decode cX6_gate 15 = .ok (.iaload, 1) := by decide +kernel
theorem dX6_gate_16 : decode cX6_gate 16 = .ok (.ifCond .le 6, 3) := by decide +kernel
theorem dX6_gate_19 : decode cX6_gate 19 = .ok (.bipush (-4), 2) := by decide +kernel
theorem dX6_gate_21 : decode cX6_gate 21 = .ok (.ireturn, 1) := by decide +kernel
theorem dX6_gate_22 : decode cX6_gate 22 = .ok (.aload_n 0, 1) := by decide +kernel
theorem dX6_gate_23 : decode cX6_gate 23 = .ok (.getfield 7, 3) := by decide +kernel
theorem dX6_gate_26 : decode cX6_gate 26 = .ok (.bipush 6, 2) := by decide +kernel
theorem dX6_gate_28 : decode cX6_gate 28 = .ok (.dup2, 1) := by decide +kernel
theorem dX6_gate_29 : decode cX6_gate 29 = .ok (.iaload, 1) := by decide +kernel
theorem dX6_gate_30 : decode cX6_gate 30 = .ok (.iconst 1, 1) := by decide +kernel
theorem dX6_gate_31 : decode cX6_gate 31 = .ok (.iload_n 1, 1) := by decide +kernel
theorem dX6_gate_32 : decode cX6_gate 32 = .ok (.ishl, 1) := by decide +kernel
theorem dX6_gate_33 : decode cX6_gate 33 = .ok (.ixor, 1) := by decide +kernel
theorem dX6_gate_34 : decode cX6_gate 34 = .ok (.iastore, 1) := by decide +kernel
theorem dX6_gate_35 : decode cX6_gate 35 = .ok (.iconst 1, 1) := by decide +kernel
theorem dX6_gate_36 : decode cX6_gate 36 = .ok (.aload_n 0, 1) := by decide +kernel
theorem dX6_gate_37 : decode cX6_gate 37 = .ok (.getfield 7, 3) := by decide +kernel
theorem dX6_gate_40 : decode cX6_gate 40 = .ok (.bipush 6, 2) := by decide +kernel
theorem dX6_gate_42 : decode cX6_gate 42 = .ok (.iaload, 1) := by decide +kernel
theorem dX6_gate_43 : decode cX6_gate 43 = .ok (.iload_n 1, 1) := by decide +kernel
theorem dX6_gate_44 : decode cX6_gate 44 = .ok (.ishr, 1) := by decide +kernel
theorem dX6_gate_45 : decode cX6_gate 45 = .ok (.iconst 1, 1) := by decide +kernel
theorem dX6_gate_46 : decode cX6_gate 46 = .ok (.iand, 1) := by decide +kernel
theorem dX6_gate_47 : decode cX6_gate 47 = .ok (.isub, 1) := by decide +kernel
theorem dX6_gate_48 : decode cX6_gate 48 = .ok (.ireturn, 1) := by decide +kernel
def j_X6_gate (F : Nat) (a1 : Int32) (st : sw_St) : Option (Int32 × sw_St) :=
bo (j_X6_isStranger F a1 st) (fun (r2 : Int32) =>
(if r2 = 0 then (
 some (((-1) : Int32), st))
else (
 (if (st.1 64 0) ≤ 0 then (
  nm (sw_setC st 64 6 ((st.1 64 6) ^^^ (1 <<< (a1 &&& 31)))) (fun (s8 : sw_St) =>
  some ((1 - (((s8.1 64 6) >>> (a1 &&& 31)) &&& 1) : Int32), s8)))
 else (
  some (((-4) : Int32), st))))))
set_option maxHeartbeats 4000000 in
set_option maxRecDepth 100000 in
theorem c_X6_gate (F : Nat) (a1 : Int32) (st : sw_St) {r : Int32} {st1 : sw_St} (h : j_X6_gate F a1 st = some (r, st1)) : sw_CI yX6_gate (.code yX6_gate cX6_gate 2 (some .int)) 3 (fun g => [.ref (g.1 63), .int a1]) st r st1 := by
  refine sw_entI RX6 (fun g => [(0, .ref (g.1 63)), (1, .int a1)]) (by decide) rfl (fun _ => Nat.le_of_ble_eq_true rfl) (fun _ => rfl) ?_
  intro p l e s m args below meth c g X hr hlk
  unfold j_X6_gate at h
  refine sw_aload_n X 0 rfl rfl dX6_gate_0 ?_
  refine sw_iload_n X 1 rfl rfl dX6_gate_1 ?_
  obtain ⟨r2, c1, h⟩ := bo_E h
  refine sw_callVI X (o := 63) (As := (fun g => [.int a1])) sw_cl6 (show sw_kd 63 = 6 from rfl) ws_X6_isStranger (by omega) (c_X6_isStranger F a1 st c1) rfl rfl (Nat.le_of_ble_eq_true rfl) wm_X6_155 dX6_gate_2 ?_
  refine sw_if_ne X 10 (by decide) dX6_gate_5 (fun q3 => ?_) (fun q3 => ?_)
  · have h := ite_F h q3
    refine sw_aload_n X 0 rfl rfl dX6_gate_10 ?_
    refine sw_getR X sw_cl6 (show sw_kd 63 = 6 from rfl) (k := 0) rfl (by decide) (o1 := 64) rfl wf_X6_7 dX6_gate_11 ?_
    refine sw_iconst X (v := 0) (by decide) dX6_gate_14 ?_
    refine sw_iald X (show sw_kd 64 = 8 from rfl) (n := 835) rfl (i := 0) (by unfold vp_in; decide) dX6_gate_15 ?_
    refine sw_if_le X 22 (by decide) dX6_gate_16 (fun q5 => ?_) (fun q5 => ?_)
    · have h := ite_T h q5
      refine sw_aload_n X 0 rfl rfl dX6_gate_22 ?_
      refine sw_getR X sw_cl6 (show sw_kd 63 = 6 from rfl) (k := 0) rfl (by decide) (o1 := 64) rfl wf_X6_7 dX6_gate_23 ?_
      refine sw_bipush X (v := 6) (by decide) dX6_gate_26 ?_
      refine sw_dup2 X rfl rfl dX6_gate_28 ?_
      refine sw_iald X (show sw_kd 64 = 8 from rfl) (n := 835) rfl (i := 6) (by unfold vp_in; decide) dX6_gate_29 ?_
      refine sw_iconst X (v := 1) (by decide) dX6_gate_30 ?_
      refine sw_iload_n X 1 rfl rfl dX6_gate_31 ?_
      refine sw_ishl X dX6_gate_32 ?_
      refine sw_ixor X dX6_gate_33 ?_
      refine sw_iast X (show sw_kd 64 = 8 from rfl) (n := 835) rfl (i := 6) (by unfold vp_in; decide) dX6_gate_34 (fun s8 es8 => ?_)
      have h := nm_E h es8
      refine sw_iconst X (v := 1) (by decide) dX6_gate_35 ?_
      refine sw_aload_n X 0 rfl rfl dX6_gate_36 ?_
      refine sw_getR X sw_cl6 (show sw_kd 63 = 6 from rfl) (k := 0) rfl (by decide) (o1 := 64) rfl wf_X6_7 dX6_gate_37 ?_
      refine sw_bipush X (v := 6) (by decide) dX6_gate_40 ?_
      refine sw_iald X (show sw_kd 64 = 8 from rfl) (n := 835) rfl (i := 6) (by unfold vp_in; decide) dX6_gate_42 ?_
      refine sw_iload_n X 1 rfl rfl dX6_gate_43 ?_
      refine sw_ishr X dX6_gate_44 ?_
      refine sw_iconst X (v := 1) (by decide) dX6_gate_45 ?_
      refine sw_iand X dX6_gate_46 ?_
      refine sw_isub X dX6_gate_47 ?_
      exact sw_iret X hr hlk dX6_gate_48 h
    · have h := ite_F h q5
      refine sw_bipush X (v := (-4)) (by decide) dX6_gate_19 ?_
      exact sw_iret X hr hlk dX6_gate_21 h
  · have h := ite_T h q3
    refine sw_iconst X (v := (-1)) (by decide) dX6_gate_8 ?_
    exact sw_iret X hr hlk dX6_gate_9 h
theorem dX6_keepPast_0 : decode cX6_keepPast 0 = .ok (.iconst 0, 1) := by decide +kernel
theorem dX6_keepPast_1 : decode cX6_keepPast 1 = .ok (.istore_n 1, 1) := by decide +kernel
theorem dX6_keepPast_2 : decode cX6_keepPast 2 = .ok (.iload_n 1, 1) := by decide +kernel
theorem dX6_keepPast_3 : decode cX6_keepPast 3 = .ok (.iconst 5, 1) := by decide +kernel
theorem dX6_keepPast_4 : decode cX6_keepPast 4 = .ok (.if_icmp .ge 35, 3) := by decide +kernel
theorem dX6_keepPast_7 : decode cX6_keepPast 7 = .ok (.aload_n 0, 1) := by decide +kernel
theorem dX6_keepPast_8 : decode cX6_keepPast 8 = .ok (.getfield 7, 3) := by decide +kernel
theorem dX6_keepPast_11 : decode cX6_keepPast 11 = .ok (.bipush 7, 2) := by decide +kernel
theorem dX6_keepPast_13 : decode cX6_keepPast 13 = .ok (.iconst 5, 1) := by decide +kernel
theorem dX6_keepPast_14 : decode cX6_keepPast 14 = .ok (.aload_n 0, 1) := by decide +kernel
theorem dX6_keepPast_15 : decode cX6_keepPast 15 = .ok (.getfield 7, 3) := by decide +kernel
theorem dX6_keepPast_18 : decode cX6_keepPast 18 = .ok (.iconst 0, 1) := by decide +kernel
theorem dX6_keepPast_19 : decode cX6_keepPast 19 = .ok (.iaload, 1) := by decide +kernel
theorem dX6_keepPast_20 : decode cX6_keepPast 20 = .ok (.imul, 1) := by decide +kernel
theorem dX6_keepPast_21 : decode cX6_keepPast 21 = .ok (.iadd, 1) := by decide +kernel
theorem dX6_keepPast_22 : decode cX6_keepPast 22 = .ok (.iload_n 1, 1) := by decide +kernel
theorem dX6_keepPast_23 : decode cX6_keepPast 23 = .ok (.iadd, 1) := by decide +kernel
theorem dX6_keepPast_24 : decode cX6_keepPast 24 = .ok (.aload_n 0, 1) := by decide +kernel
theorem dX6_keepPast_25 : decode cX6_keepPast 25 = .ok (.getfield 7, 3) := by decide +kernel
theorem dX6_keepPast_28 : decode cX6_keepPast 28 = .ok (.iconst 1, 1) := by decide +kernel
theorem dX6_keepPast_29 : decode cX6_keepPast 29 = .ok (.iload_n 1, 1) := by decide +kernel
theorem dX6_keepPast_30 : decode cX6_keepPast 30 = .ok (.iadd, 1) := by decide +kernel
theorem dX6_keepPast_31 : decode cX6_keepPast 31 = .ok (.iaload, 1) := by decide +kernel
theorem dX6_keepPast_32 : decode cX6_keepPast 32 = .ok (.iastore, 1) := by decide +kernel
theorem dX6_keepPast_33 : decode cX6_keepPast 33 = .ok (.iinc 1 1, 3) := by decide +kernel
theorem dX6_keepPast_36 : decode cX6_keepPast 36 = .ok (.goto (-34), 3) := by decide +kernel
theorem dX6_keepPast_39 : decode cX6_keepPast 39 = .ok (.aload_n 0, 1) := by decide +kernel
theorem dX6_keepPast_40 : decode cX6_keepPast 40 = .ok (.getfield 7, 3) := by decide +kernel
theorem dX6_keepPast_43 : decode cX6_keepPast 43 = .ok (.iconst 0, 1) := by decide +kernel
theorem dX6_keepPast_44 : decode cX6_keepPast 44 = .ok (.dup2, 1) := by decide +kernel
theorem dX6_keepPast_45 : decode cX6_keepPast 45 = .ok (.iaload, 1) := by decide +kernel
theorem dX6_keepPast_46 : decode cX6_keepPast 46 = .ok (.iconst 1, 1) := by decide +kernel
theorem dX6_keepPast_47 : decode cX6_keepPast 47 = .ok (.iadd, 1) := by decide +kernel
theorem dX6_keepPast_48 : decode cX6_keepPast 48 = .ok (.iastore, 1) := by decide +kernel
theorem dX6_keepPast_49 : decode cX6_keepPast 49 = .ok (.return_, 1) := by decide +kernel
def j_X6_keepPast (F : Nat) (st : sw_St) : Option (Unit × sw_St) :=
lz2 (fun f3 (x1 : Int32) (s2 : sw_St) =>
 (if 5 ≤ x1 then (
  nm (sw_setC s2 64 0 ((s2.1 64 0) + 1)) (fun (s8 : sw_St) =>
  some ((), s8)))
 else (
  bnd (1 + x1) 835 (
  bnd ((7 + (5 * (s2.1 64 0))) + x1) 835 (
  nm (sw_setC s2 64 (((7 + (5 * (s2.1 64 0))) + x1) : Int32).toNatClampNeg (s2.1 64 ((1 + x1) : Int32).toNatClampNeg)) (fun (s12 : sw_St) =>
  nm (x1 + 1) (fun (x13 : Int32) =>
  f3 x13 s12))))))) F 0 st
set_option maxHeartbeats 4000000 in
set_option maxRecDepth 100000 in
theorem c_X6_keepPast (F : Nat) (st : sw_St) {st1 : sw_St} (h : j_X6_keepPast F  st = some ((), st1)) : sw_CV yX6_keepPast (.code yX6_keepPast cX6_keepPast 2 none) 1 (fun g => [.ref (g.1 63)]) st  st1 := by
  refine sw_entV RX6 (fun g => [(0, .ref (g.1 63))]) (by decide) rfl (fun _ => Nat.le_of_ble_eq_true rfl) (fun _ => rfl) ?_
  intro p l e s m args below meth c g X hr hlk
  unfold j_X6_keepPast at h
  refine sw_iconst X (v := 0) (by decide) dX6_keepPast_0 ?_
  refine sw_istore_n X [(1, .int 0), (0, .ref (g.1 63))] rfl (by decide) rfl dX6_keepPast_1 ?_
  refine sw_sub [1, 0] rfl ?_
  refine lz2_E (fun (x1 : Int32) (s2 : sw_St) => sw_V p l e 1 s m args below meth c g (sw_A g s.heap.size) (sw_QV below g args s  st1) 2 2 [(0, .ref (g.1 63)), (1, .int x1)] [] s2) h (fun f3 ih4 x1 s2 h => ?_)
  refine sw_iload_n X 1 rfl rfl dX6_keepPast_2 ?_
  refine sw_iconst X (v := 5) (by decide) dX6_keepPast_3 ?_
  refine sw_icmp_ge X 39 (by decide) dX6_keepPast_4 (fun q5 => ?_) (fun q5 => ?_)
  · have h := ite_T h q5
    refine sw_aload_n X 0 rfl rfl dX6_keepPast_39 ?_
    refine sw_getR X sw_cl6 (show sw_kd 63 = 6 from rfl) (k := 0) rfl (by decide) (o1 := 64) rfl wf_X6_7 dX6_keepPast_40 ?_
    refine sw_iconst X (v := 0) (by decide) dX6_keepPast_43 ?_
    refine sw_dup2 X rfl rfl dX6_keepPast_44 ?_
    refine sw_iald X (show sw_kd 64 = 8 from rfl) (n := 835) rfl (i := 0) (by unfold vp_in; decide) dX6_keepPast_45 ?_
    refine sw_iconst X (v := 1) (by decide) dX6_keepPast_46 ?_
    refine sw_iadd X dX6_keepPast_47 ?_
    refine sw_iast X (show sw_kd 64 = 8 from rfl) (n := 835) rfl (i := 0) (by unfold vp_in; decide) dX6_keepPast_48 (fun s8 es8 => ?_)
    have h := nm_E h es8
    exact sw_vret X hr hlk dX6_keepPast_49 h
  · have h := ite_F h q5
    refine sw_aload_n X 0 rfl rfl dX6_keepPast_7 ?_
    refine sw_getR X sw_cl6 (show sw_kd 63 = 6 from rfl) (k := 0) rfl (by decide) (o1 := 64) rfl wf_X6_7 dX6_keepPast_8 ?_
    refine sw_bipush X (v := 7) (by decide) dX6_keepPast_11 ?_
    refine sw_iconst X (v := 5) (by decide) dX6_keepPast_13 ?_
    refine sw_aload_n X 0 rfl rfl dX6_keepPast_14 ?_
    refine sw_getR X sw_cl6 (show sw_kd 63 = 6 from rfl) (k := 0) rfl (by decide) (o1 := 64) rfl wf_X6_7 dX6_keepPast_15 ?_
    refine sw_iconst X (v := 0) (by decide) dX6_keepPast_18 ?_
    refine sw_iald X (show sw_kd 64 = 8 from rfl) (n := 835) rfl (i := 0) (by unfold vp_in; decide) dX6_keepPast_19 ?_
    refine sw_imul X dX6_keepPast_20 ?_
    refine sw_iadd X dX6_keepPast_21 ?_
    refine sw_iload_n X 1 rfl rfl dX6_keepPast_22 ?_
    refine sw_iadd X dX6_keepPast_23 ?_
    refine sw_aload_n X 0 rfl rfl dX6_keepPast_24 ?_
    refine sw_getR X sw_cl6 (show sw_kd 63 = 6 from rfl) (k := 0) rfl (by decide) (o1 := 64) rfl wf_X6_7 dX6_keepPast_25 ?_
    refine sw_iconst X (v := 1) (by decide) dX6_keepPast_28 ?_
    refine sw_iload_n X 1 rfl rfl dX6_keepPast_29 ?_
    refine sw_iadd X dX6_keepPast_30 ?_
    obtain ⟨q10, h⟩ := bnd_E h
    refine sw_iald X (show sw_kd 64 = 8 from rfl) (n := 835) rfl q10 dX6_keepPast_31 ?_
    obtain ⟨q11, h⟩ := bnd_E h
    refine sw_iast X (show sw_kd 64 = 8 from rfl) (n := 835) rfl q11 dX6_keepPast_32 (fun s12 es12 => ?_)
    have h := nm_E h es12
    obtain ⟨x13, ex13⟩ : ∃ y : Int32, y = x1 + 1 := ⟨_, rfl⟩
    have h := nm_E h ex13
    refine sw_iinc X 1 x13 [(1, .int x13), (0, .ref (g.1 63))] rfl (by rw [ex13]; rfl) (by decide) rfl dX6_keepPast_33 ?_
    refine sw_goto X 2 (by decide) dX6_keepPast_36 ?_
    refine sw_sub [1, 0] rfl ?_
    exact ih4 _ _ h
theorem dX6_doLet_0 : decode cX6_doLet 0 = .ok (.aload_n 0, 1) := by decide +kernel
theorem dX6_doLet_1 : decode cX6_doLet 1 = .ok (.invokevirtual 164, 3) := by decide +kernel
theorem dX6_doLet_4 : decode cX6_doLet 4 = .ok (.aload_n 0, 1) := by decide +kernel
theorem dX6_doLet_5 : decode cX6_doLet 5 = .ok (.iconst 0, 1) := by decide +kernel
theorem dX6_doLet_6 : decode cX6_doLet 6 = .ok (.iload_n 1, 1) := by decide +kernel
theorem dX6_doLet_7 : decode cX6_doLet 7 = .ok (.invokevirtual 152, 3) := by decide +kernel
theorem dX6_doLet_10 : decode cX6_doLet 10 = .ok (.aload_n 0, 1) := by decide +kernel
theorem dX6_doLet_11 : decode cX6_doLet 11 = .ok (.getfield 7, 3) := by decide +kernel
theorem dX6_doLet_14 : decode cX6_doLet 14 = .ok (.iconst 1, 1) := by decide +kernel
theorem dX6_doLet_15 : decode cX6_doLet 15 = .ok (.iaload, 1) := by decide +kernel
theorem dX6_doLet_16 : decode cX6_doLet 16 = .ok (.ireturn, 1) := by decide +kernel
def j_X6_doLet (F : Nat) (a1 : Int32) (st : sw_St) : Option (Int32 × sw_St) :=
bd (j_X6_keepPast F st) (fun (_ : Unit) (s2 : sw_St) =>
bd (j_X6_comesIn F 0 a1 s2) (fun (_ : Unit) (s4 : sw_St) =>
some ((s4.1 64 1 : Int32), s4)))
set_option maxHeartbeats 4000000 in
set_option maxRecDepth 100000 in
theorem c_X6_doLet (F : Nat) (a1 : Int32) (st : sw_St) {r : Int32} {st1 : sw_St} (h : j_X6_doLet F a1 st = some (r, st1)) : sw_CI yX6_doLet (.code yX6_doLet cX6_doLet 2 (some .int)) 5 (fun g => [.ref (g.1 63), .int a1]) st r st1 := by
  refine sw_entI RX6 (fun g => [(0, .ref (g.1 63)), (1, .int a1)]) (by decide) rfl (fun _ => Nat.le_of_ble_eq_true rfl) (fun _ => rfl) ?_
  intro p l e s m args below meth c g X hr hlk
  unfold j_X6_doLet at h
  refine sw_aload_n X 0 rfl rfl dX6_doLet_0 ?_
  obtain ⟨u7, s2, c1, h⟩ := bd_E h
  refine sw_callVV X (o := 63) (As := (fun g => [])) sw_cl6 (show sw_kd 63 = 6 from rfl) ws_X6_keepPast (by omega) (c_X6_keepPast F st c1) rfl rfl (Nat.le_of_ble_eq_true rfl) wm_X6_164 dX6_doLet_1 ?_
  refine sw_aload_n X 0 rfl rfl dX6_doLet_4 ?_
  refine sw_iconst X (v := 0) (by decide) dX6_doLet_5 ?_
  refine sw_iload_n X 1 rfl rfl dX6_doLet_6 ?_
  obtain ⟨u6, s4, c3, h⟩ := bd_E h
  refine sw_callVV X (o := 63) (As := (fun g => [.int 0, .int a1])) sw_cl6 (show sw_kd 63 = 6 from rfl) ws_X6_comesIn (by omega) (c_X6_comesIn F 0 a1 s2 c3) rfl rfl (Nat.le_of_ble_eq_true rfl) wm_X6_152 dX6_doLet_7 ?_
  refine sw_aload_n X 0 rfl rfl dX6_doLet_10 ?_
  refine sw_getR X sw_cl6 (show sw_kd 63 = 6 from rfl) (k := 0) rfl (by decide) (o1 := 64) rfl wf_X6_7 dX6_doLet_11 ?_
  refine sw_iconst X (v := 1) (by decide) dX6_doLet_14 ?_
  refine sw_iald X (show sw_kd 64 = 8 from rfl) (n := 835) rfl (i := 1) (by unfold vp_in; decide) dX6_doLet_15 ?_
  exact sw_iret X hr hlk dX6_doLet_16 h
theorem dX6_let_0 : decode cX6_let 0 = .ok (.aload_n 0, 1) := by decide +kernel
theorem dX6_let_1 : decode cX6_let 1 = .ok (.iload_n 1, 1) := by decide +kernel
theorem dX6_let_2 : decode cX6_let 2 = .ok (.invokevirtual 155, 3) := by decide +kernel
theorem dX6_let_5 : decode cX6_let 5 = .ok (.ifCond .ne 5, 3) := by decide +kernel
theorem dX6_let_8 : decode cX6_let 8 = .ok (.iconst (-1), 1) := by decide +kernel
theorem dX6_let_9 : decode cX6_let 9 = .ok (.ireturn, 1) := by decide +kernel
theorem dX6_let_10 : decode cX6_let 10 = .ok (.aload_n 0, 1) := by decide +kernel
theorem dX6_let_11 : decode cX6_let 11 = .ok (.iconst 0, 1) := by decide +kernel
theorem dX6_let_12 : decode cX6_let 12 = .ok (.iload_n 1, 1) := by decide +kernel
theorem dX6_let_13 : decode cX6_let 13 = .ok (.invokevirtual 167, 3) := by decide +kernel
theorem dX6_let_16 : decode cX6_let 16 = .ok (.ifCond .eq 6, 3) := by decide +kernel
theorem dX6_let_19 : decode cX6_let 19 = .ok (.bipush (-4), 2) := by decide +kernel
theorem dX6_let_21 : decode cX6_let 21 = .ok (.ireturn, 1) := by decide +kernel
theorem dX6_let_22 : decode cX6_let 22 = .ok (.aload_n 0, 1) := by decide +kernel
theorem dX6_let_23 : decode cX6_let 23 = .ok (.getfield 7, 3) := by decide +kernel
theorem dX6_let_26 : decode cX6_let 26 = .ok (.iconst 0, 1) := by decide +kernel
theorem dX6_let_27 : decode cX6_let 27 = .ok (.iaload, 1) := by decide +kernel
theorem dX6_let_28 : decode cX6_let 28 = .ok (.bipush 40, 2) := by decide +kernel
theorem dX6_let_30 : decode cX6_let 30 = .ok (.if_icmp .ne 8, 3) := by decide +kernel
theorem dX6_let_33 : decode cX6_let 33 = .ok (.bipush (-2), 2) := by decide +kernel
theorem dX6_let_35 : decode cX6_let 35 = .ok (.goto 8, 3) := by decide +kernel
theorem dX6_let_38 : decode cX6_let 38 = .ok (.aload_n 0, 1) := by decide +kernel
theorem dX6_let_39 : decode cX6_let 39 = .ok (.iload_n 1, 1) := by decide +kernel
theorem dX6_let_40 : decode cX6_let 40 = .ok (.invokevirtual 170, 3) := by decide +kernel
theorem dX6_let_43 : decode cX6_let 43 = .ok (.ireturn, 1) := by decide +kernel
def j_X6_let (F : Nat) (a1 : Int32) (st : sw_St) : Option (Int32 × sw_St) :=
bo (j_X6_isStranger F a1 st) (fun (r2 : Int32) =>
(if r2 = 0 then (
 some (((-1) : Int32), st))
else (
 bo (j_X6_isIn F 0 a1 st) (fun (r5 : Int32) =>
 (if r5 = 0 then (
  jn (fun (x8 : Int32) (s9 : sw_St) => 
    some ((x8 : Int32), s9)) (fun k10 =>
   (if (st.1 64 0) = 40 then (
    k10 (-2) st)
   else (
    bd (j_X6_doLet F a1 st) (fun (r14 : Int32) (s15 : sw_St) =>
    k10 r14 s15)))))
 else (
  some (((-4) : Int32), st)))))))
set_option maxHeartbeats 4000000 in
set_option maxRecDepth 100000 in
theorem c_X6_let (F : Nat) (a1 : Int32) (st : sw_St) {r : Int32} {st1 : sw_St} (h : j_X6_let F a1 st = some (r, st1)) : sw_CI yX6_let (.code yX6_let cX6_let 2 (some .int)) 6 (fun g => [.ref (g.1 63), .int a1]) st r st1 := by
  refine sw_entI RX6 (fun g => [(0, .ref (g.1 63)), (1, .int a1)]) (by decide) rfl (fun _ => Nat.le_of_ble_eq_true rfl) (fun _ => rfl) ?_
  intro p l e s m args below meth c g X hr hlk
  unfold j_X6_let at h
  refine sw_aload_n X 0 rfl rfl dX6_let_0 ?_
  refine sw_iload_n X 1 rfl rfl dX6_let_1 ?_
  obtain ⟨r2, c1, h⟩ := bo_E h
  refine sw_callVI X (o := 63) (As := (fun g => [.int a1])) sw_cl6 (show sw_kd 63 = 6 from rfl) ws_X6_isStranger (by omega) (c_X6_isStranger F a1 st c1) rfl rfl (Nat.le_of_ble_eq_true rfl) wm_X6_155 dX6_let_2 ?_
  refine sw_if_ne X 10 (by decide) dX6_let_5 (fun q3 => ?_) (fun q3 => ?_)
  · have h := ite_F h q3
    refine sw_aload_n X 0 rfl rfl dX6_let_10 ?_
    refine sw_iconst X (v := 0) (by decide) dX6_let_11 ?_
    refine sw_iload_n X 1 rfl rfl dX6_let_12 ?_
    obtain ⟨r5, c4, h⟩ := bo_E h
    refine sw_callVI X (o := 63) (As := (fun g => [.int 0, .int a1])) sw_cl6 (show sw_kd 63 = 6 from rfl) ws_X6_isIn (by omega) (c_X6_isIn F 0 a1 st c4) rfl rfl (Nat.le_of_ble_eq_true rfl) wm_X6_167 dX6_let_13 ?_
    refine sw_if_eq X 22 (by decide) dX6_let_16 (fun q6 => ?_) (fun q6 => ?_)
    · have h := ite_T h q6
      refine sw_aload_n X 0 rfl rfl dX6_let_22 ?_
      refine sw_getR X sw_cl6 (show sw_kd 63 = 6 from rfl) (k := 0) rfl (by decide) (o1 := 64) rfl wf_X6_7 dX6_let_23 ?_
      refine sw_iconst X (v := 0) (by decide) dX6_let_26 ?_
      refine sw_iald X (show sw_kd 64 = 8 from rfl) (n := 835) rfl (i := 0) (by unfold vp_in; decide) dX6_let_27 ?_
      refine sw_bipush X (v := 40) (by decide) dX6_let_28 ?_
      refine jn2_E (fun (x8 : Int32) (s9 : sw_St) => sw_V p l e 6 s m args below meth c g (sw_A g s.heap.size) (sw_QI below g args s r st1) 2 43 [] [.int x8] s9) h (fun x8 s9 h => ?_) (fun k10 J11 h => ?_)
      · exact sw_iret X hr hlk dX6_let_43 h
      · refine sw_icmp_ne X 38 (by decide) dX6_let_30 (fun q12 => ?_) (fun q12 => ?_)
        · have h := ite_F h q12
          refine sw_aload_n X 0 rfl rfl dX6_let_38 ?_
          refine sw_iload_n X 1 rfl rfl dX6_let_39 ?_
          obtain ⟨r14, s15, c13, h⟩ := bd_E h
          refine sw_callVI X (o := 63) (As := (fun g => [.int a1])) sw_cl6 (show sw_kd 63 = 6 from rfl) ws_X6_doLet (by omega) (c_X6_doLet F a1 st c13) rfl rfl (Nat.le_of_ble_eq_true rfl) wm_X6_170 dX6_let_40 ?_
          refine sw_sub [] rfl ?_
          exact J11 _ _ h
        · have h := ite_T h q12
          refine sw_bipush X (v := (-2)) (by decide) dX6_let_33 ?_
          refine sw_goto X 43 (by decide) dX6_let_35 ?_
          refine sw_sub [] rfl ?_
          exact J11 _ _ h
    · have h := ite_F h q6
      refine sw_bipush X (v := (-4)) (by decide) dX6_let_19 ?_
      exact sw_iret X hr hlk dX6_let_21 h
  · have h := ite_T h q3
    refine sw_iconst X (v := (-1)) (by decide) dX6_let_8 ?_
    exact sw_iret X hr hlk dX6_let_9 h
theorem dX6_doLeave_0 : decode cX6_doLeave 0 = .ok (.aload_n 0, 1) := by decide +kernel
theorem dX6_doLeave_1 : decode cX6_doLeave 1 = .ok (.invokevirtual 164, 3) := by decide +kernel
theorem dX6_doLeave_4 : decode cX6_doLeave 4 = .ok (.aload_n 0, 1) := by decide +kernel
theorem dX6_doLeave_5 : decode cX6_doLeave 5 = .ok (.getfield 7, 3) := by decide +kernel
theorem dX6_doLeave_8 : decode cX6_doLeave 8 = .ok (.iconst 5, 1) := by decide +kernel
theorem dX6_doLeave_9 : decode cX6_doLeave 9 = .ok (.dup2, 1) := by decide +kernel
theorem dX6_doLeave_10 : decode cX6_doLeave 10 = .ok (.iaload, 1) := by decide +kernel
theorem dX6_doLeave_11 : decode cX6_doLeave 11 = .ok (.iconst 1, 1) := by decide +kernel
theorem dX6_doLeave_12 : decode cX6_doLeave 12 = .ok (.iload_n 1, 1) := by decide +kernel
theorem dX6_doLeave_13 : decode cX6_doLeave 13 = .ok (.ishl, 1) := by decide +kernel
theorem dX6_doLeave_14 : decode cX6_doLeave 14 = .ok (.iconst (-1), 1) := by decide +kernel
theorem dX6_doLeave_15 : decode cX6_doLeave 15 = .ok (.ixor, 1) := by decide +kernel
theorem dX6_doLeave_16 : decode cX6_doLeave 16 = .ok (.iand, 1) := by decide +kernel
theorem dX6_doLeave_17 : decode cX6_doLeave 17 = .ok (.iastore, 1) := by decide +kernel
theorem dX6_doLeave_18 : decode cX6_doLeave 18 = .ok (.aload_n 0, 1) := by decide +kernel
theorem dX6_doLeave_19 : decode cX6_doLeave 19 = .ok (.getfield 7, 3) := by decide +kernel
theorem dX6_doLeave_22 : decode cX6_doLeave 22 = .ok (.iconst 5, 1) := by decide +kernel
theorem dX6_doLeave_23 : decode cX6_doLeave 23 = .ok (.iaload, 1) := by decide +kernel
theorem dX6_doLeave_24 : decode cX6_doLeave 24 = .ok (.invokestatic 146, 3) := by decide +kernel
theorem dX6_doLeave_27 : decode cX6_doLeave 27 = .ok (.ireturn, 1) := by decide +kernel
def j_X6_doLeave (F : Nat) (a1 : Int32) (st : sw_St) : Option (Int32 × sw_St) :=
bd (j_X6_keepPast F st) (fun (_ : Unit) (s2 : sw_St) =>
nm (sw_setC s2 64 5 ((s2.1 64 5) &&& ((1 <<< (a1 &&& 31)) ^^^ (-1)))) (fun (s5 : sw_St) =>
bo (j_X6_bits F (s5.1 64 5) s5) (fun (r8 : Int32) =>
some ((r8 : Int32), s5))))
set_option maxHeartbeats 4000000 in
set_option maxRecDepth 100000 in
theorem c_X6_doLeave (F : Nat) (a1 : Int32) (st : sw_St) {r : Int32} {st1 : sw_St} (h : j_X6_doLeave F a1 st = some (r, st1)) : sw_CI yX6_doLeave (.code yX6_doLeave cX6_doLeave 2 (some .int)) 2 (fun g => [.ref (g.1 63), .int a1]) st r st1 := by
  refine sw_entI RX6 (fun g => [(0, .ref (g.1 63)), (1, .int a1)]) (by decide) rfl (fun _ => Nat.le_of_ble_eq_true rfl) (fun _ => rfl) ?_
  intro p l e s m args below meth c g X hr hlk
  unfold j_X6_doLeave at h
  refine sw_aload_n X 0 rfl rfl dX6_doLeave_0 ?_
  obtain ⟨u9, s2, c1, h⟩ := bd_E h
  refine sw_callVV X (o := 63) (As := (fun g => [])) sw_cl6 (show sw_kd 63 = 6 from rfl) ws_X6_keepPast (by omega) (c_X6_keepPast F st c1) rfl rfl (Nat.le_of_ble_eq_true rfl) wm_X6_164 dX6_doLeave_1 ?_
  refine sw_aload_n X 0 rfl rfl dX6_doLeave_4 ?_
  refine sw_getR X sw_cl6 (show sw_kd 63 = 6 from rfl) (k := 0) rfl (by decide) (o1 := 64) rfl wf_X6_7 dX6_doLeave_5 ?_
  refine sw_iconst X (v := 5) (by decide) dX6_doLeave_8 ?_
  refine sw_dup2 X rfl rfl dX6_doLeave_9 ?_
  refine sw_iald X (show sw_kd 64 = 8 from rfl) (n := 835) rfl (i := 5) (by unfold vp_in; decide) dX6_doLeave_10 ?_
  refine sw_iconst X (v := 1) (by decide) dX6_doLeave_11 ?_
  refine sw_iload_n X 1 rfl rfl dX6_doLeave_12 ?_
  refine sw_ishl X dX6_doLeave_13 ?_
  refine sw_iconst X (v := (-1)) (by decide) dX6_doLeave_14 ?_
  refine sw_ixor X dX6_doLeave_15 ?_
  refine sw_iand X dX6_doLeave_16 ?_
  refine sw_iast X (show sw_kd 64 = 8 from rfl) (n := 835) rfl (i := 5) (by unfold vp_in; decide) dX6_doLeave_17 (fun s5 es5 => ?_)
  have h := nm_E h es5
  refine sw_aload_n X 0 rfl rfl dX6_doLeave_18 ?_
  refine sw_getR X sw_cl6 (show sw_kd 63 = 6 from rfl) (k := 0) rfl (by decide) (o1 := 64) rfl wf_X6_7 dX6_doLeave_19 ?_
  refine sw_iconst X (v := 5) (by decide) dX6_doLeave_22 ?_
  refine sw_iald X (show sw_kd 64 = 8 from rfl) (n := 835) rfl (i := 5) (by unfold vp_in; decide) dX6_doLeave_23 ?_
  obtain ⟨r8, c7, h⟩ := bo_E h
  refine sw_callSI X (As := (fun g => [.int (s5.1 64 5)])) ws_X6_bits (by omega) (c_X6_bits F (s5.1 64 5) s5 c7) rfl rfl (Nat.le_of_ble_eq_true rfl) wm_X6_146 dX6_doLeave_24 ?_
  exact sw_iret X hr hlk dX6_doLeave_27 h
theorem dX6_leave_0 : decode cX6_leave 0 = .ok (.aload_n 0, 1) := by decide +kernel
theorem dX6_leave_1 : decode cX6_leave 1 = .ok (.iload_n 1, 1) := by decide +kernel
theorem dX6_leave_2 : decode cX6_leave 2 = .ok (.invokevirtual 155, 3) := by decide +kernel
theorem dX6_leave_5 : decode cX6_leave 5 = .ok (.ifCond .ne 5, 3) := by decide +kernel
theorem dX6_leave_8 : decode cX6_leave 8 = .ok (.iconst (-1), 1) := by decide +kernel
theorem dX6_leave_9 : decode cX6_leave 9 = .ok (.ireturn, 1) := by decide +kernel
theorem dX6_leave_10 : decode cX6_leave 10 = .ok (.aload_n 0, 1) := by decide +kernel
theorem dX6_leave_11 : decode cX6_leave 11 = .ok (.iconst 0, 1) := by decide +kernel
theorem dX6_leave_12 : decode cX6_leave 12 = .ok (.iload_n 1, 1) := by decide +kernel
theorem dX6_leave_13 : decode cX6_leave 13 = .ok (.invokevirtual 167, 3) := by decide +kernel
theorem dX6_leave_16 : decode cX6_leave 16 = .ok (.ifCond .ne 6, 3) := by decide +kernel
theorem dX6_leave_19 : decode cX6_leave 19 = .ok (.bipush (-4), 2) := by decide +kernel
theorem dX6_leave_21 : decode cX6_leave 21 = .ok (.ireturn, 1) := by decide +kernel
theorem dX6_leave_22 : decode cX6_leave 22 = .ok (.aload_n 0, 1) := by decide +kernel
theorem dX6_leave_23 : decode cX6_leave 23 = .ok (.getfield 7, 3) := by decide +kernel
theorem dX6_leave_26 : decode cX6_leave 26 = .ok (.iconst 0, 1) := by decide +kernel
theorem dX6_leave_27 : decode cX6_leave 27 = .ok (.iaload, 1) := by decide +kernel
theorem dX6_leave_28 : decode cX6_leave 28 = .ok (.bipush 40, 2) := by decide +kernel
theorem dX6_leave_30 : decode cX6_leave 30 = .ok (.if_icmp .ne 8, 3) := by decide +kernel
theorem dX6_leave_33 : decode cX6_leave 33 = .ok (.bipush (-2), 2) := by decide +kernel
theorem dX6_leave_35 : decode cX6_leave 35 = .ok (.goto 8, 3) := by decide +kernel
theorem dX6_leave_38 : decode cX6_leave 38 = .ok (.aload_n 0, 1) := by decide +kernel
theorem dX6_leave_39 : decode cX6_leave 39 = .ok (.iload_n 1, 1) := by decide +kernel
theorem dX6_leave_40 : decode cX6_leave 40 = .ok (.invokevirtual 173, 3) := by decide +kernel
theorem dX6_leave_43 : decode cX6_leave 43 = .ok (.ireturn, 1) := by decide +kernel
def j_X6_leave (F : Nat) (a1 : Int32) (st : sw_St) : Option (Int32 × sw_St) :=
bo (j_X6_isStranger F a1 st) (fun (r2 : Int32) =>
(if r2 = 0 then (
 some (((-1) : Int32), st))
else (
 bo (j_X6_isIn F 0 a1 st) (fun (r5 : Int32) =>
 (if r5 = 0 then (
  some (((-4) : Int32), st))
 else (
  jn (fun (x8 : Int32) (s9 : sw_St) => 
    some ((x8 : Int32), s9)) (fun k10 =>
   (if (st.1 64 0) = 40 then (
    k10 (-2) st)
   else (
    bd (j_X6_doLeave F a1 st) (fun (r14 : Int32) (s15 : sw_St) =>
    k10 r14 s15))))))))))
set_option maxHeartbeats 4000000 in
set_option maxRecDepth 100000 in
theorem c_X6_leave (F : Nat) (a1 : Int32) (st : sw_St) {r : Int32} {st1 : sw_St} (h : j_X6_leave F a1 st = some (r, st1)) : sw_CI yX6_leave (.code yX6_leave cX6_leave 2 (some .int)) 3 (fun g => [.ref (g.1 63), .int a1]) st r st1 := by
  refine sw_entI RX6 (fun g => [(0, .ref (g.1 63)), (1, .int a1)]) (by decide) rfl (fun _ => Nat.le_of_ble_eq_true rfl) (fun _ => rfl) ?_
  intro p l e s m args below meth c g X hr hlk
  unfold j_X6_leave at h
  refine sw_aload_n X 0 rfl rfl dX6_leave_0 ?_
  refine sw_iload_n X 1 rfl rfl dX6_leave_1 ?_
  obtain ⟨r2, c1, h⟩ := bo_E h
  refine sw_callVI X (o := 63) (As := (fun g => [.int a1])) sw_cl6 (show sw_kd 63 = 6 from rfl) ws_X6_isStranger (by omega) (c_X6_isStranger F a1 st c1) rfl rfl (Nat.le_of_ble_eq_true rfl) wm_X6_155 dX6_leave_2 ?_
  refine sw_if_ne X 10 (by decide) dX6_leave_5 (fun q3 => ?_) (fun q3 => ?_)
  · have h := ite_F h q3
    refine sw_aload_n X 0 rfl rfl dX6_leave_10 ?_
    refine sw_iconst X (v := 0) (by decide) dX6_leave_11 ?_
    refine sw_iload_n X 1 rfl rfl dX6_leave_12 ?_
    obtain ⟨r5, c4, h⟩ := bo_E h
    refine sw_callVI X (o := 63) (As := (fun g => [.int 0, .int a1])) sw_cl6 (show sw_kd 63 = 6 from rfl) ws_X6_isIn (by omega) (c_X6_isIn F 0 a1 st c4) rfl rfl (Nat.le_of_ble_eq_true rfl) wm_X6_167 dX6_leave_13 ?_
    refine sw_if_ne X 22 (by decide) dX6_leave_16 (fun q6 => ?_) (fun q6 => ?_)
    · have h := ite_F h q6
      refine sw_aload_n X 0 rfl rfl dX6_leave_22 ?_
      refine sw_getR X sw_cl6 (show sw_kd 63 = 6 from rfl) (k := 0) rfl (by decide) (o1 := 64) rfl wf_X6_7 dX6_leave_23 ?_
      refine sw_iconst X (v := 0) (by decide) dX6_leave_26 ?_
      refine sw_iald X (show sw_kd 64 = 8 from rfl) (n := 835) rfl (i := 0) (by unfold vp_in; decide) dX6_leave_27 ?_
      refine sw_bipush X (v := 40) (by decide) dX6_leave_28 ?_
      refine jn2_E (fun (x8 : Int32) (s9 : sw_St) => sw_V p l e 3 s m args below meth c g (sw_A g s.heap.size) (sw_QI below g args s r st1) 2 43 [] [.int x8] s9) h (fun x8 s9 h => ?_) (fun k10 J11 h => ?_)
      · exact sw_iret X hr hlk dX6_leave_43 h
      · refine sw_icmp_ne X 38 (by decide) dX6_leave_30 (fun q12 => ?_) (fun q12 => ?_)
        · have h := ite_F h q12
          refine sw_aload_n X 0 rfl rfl dX6_leave_38 ?_
          refine sw_iload_n X 1 rfl rfl dX6_leave_39 ?_
          obtain ⟨r14, s15, c13, h⟩ := bd_E h
          refine sw_callVI X (o := 63) (As := (fun g => [.int a1])) sw_cl6 (show sw_kd 63 = 6 from rfl) ws_X6_doLeave (by omega) (c_X6_doLeave F a1 st c13) rfl rfl (Nat.le_of_ble_eq_true rfl) wm_X6_173 dX6_leave_40 ?_
          refine sw_sub [] rfl ?_
          exact J11 _ _ h
        · have h := ite_T h q12
          refine sw_bipush X (v := (-2)) (by decide) dX6_leave_33 ?_
          refine sw_goto X 43 (by decide) dX6_leave_35 ?_
          refine sw_sub [] rfl ?_
          exact J11 _ _ h
    · have h := ite_T h q6
      refine sw_bipush X (v := (-4)) (by decide) dX6_leave_19 ?_
      exact sw_iret X hr hlk dX6_leave_21 h
  · have h := ite_T h q3
    refine sw_iconst X (v := (-1)) (by decide) dX6_leave_8 ?_
    exact sw_iret X hr hlk dX6_leave_9 h
theorem dX6_hour_0 : decode cX6_hour 0 = .ok (.aload_n 0, 1) := by decide +kernel
theorem dX6_hour_1 : decode cX6_hour 1 = .ok (.getfield 136, 3) := by decide +kernel
theorem dX6_hour_4 : decode cX6_hour 4 = .ok (.ifCond .ne 6, 3) := by decide +kernel
theorem dX6_hour_7 : decode cX6_hour 7 = .ok (.bipush (-4), 2) := by decide +kernel
theorem dX6_hour_9 : decode cX6_hour 9 = .ok (.ireturn, 1) := by decide +kernel
theorem dX6_hour_10 : decode cX6_hour 10 = .ok (.aload_n 0, 1) := by decide +kernel
theorem dX6_hour_11 : decode cX6_hour 11 = .ok (.getfield 7, 3) := by decide +kernel
theorem dX6_hour_14 : decode cX6_hour 14 = .ok (.iconst 0, 1) := by decide +kernel
theorem dX6_hour_15 : decode cX6_hour 15 = .ok (.iaload, 1) := by decide +kernel
theorem dX6_hour_16 : decode cX6_hour 16 = .ok (.bipush 40, 2) := by decide +kernel
theorem dX6_hour_18 : decode cX6_hour 18 = .ok (.if_icmp .ne 6, 3) := by decide +kernel
theorem dX6_hour_21 : decode cX6_hour 21 = .ok (.bipush (-2), 2) := by decide +kernel
theorem dX6_hour_23 : decode cX6_hour 23 = .ok (.ireturn, 1) := by decide +kernel
theorem dX6_hour_24 : decode cX6_hour 24 = .ok (.aload_n 0, 1) := by decide +kernel
theorem dX6_hour_25 : decode cX6_hour 25 = .ok (.invokevirtual 164, 3) := by decide +kernel
theorem dX6_hour_28 : decode cX6_hour 28 = .ok (.aload_n 0, 1) := by decide +kernel
theorem dX6_hour_29 : decode cX6_hour 29 = .ok (.iconst 0, 1) := by decide +kernel
theorem dX6_hour_30 : decode cX6_hour 30 = .ok (.invokevirtual 176, 3) := by decide +kernel
theorem dX6_hour_33 : decode cX6_hour 33 = .ok (.istore_n 1, 1) := by decide +kernel
theorem dX6_hour_34 : decode cX6_hour 34 = .ok (.aload_n 0, 1) := by decide +kernel
theorem dX6_hour_35 : decode cX6_hour 35 = .ok (.aload_n 0, 1) := by decide +kernel
theorem dX6_hour_36 : decode cX6_hour 36 = .ok (.getfield 7, 3) := by decide +kernel
theorem dX6_hour_39 : decode cX6_hour 39 = .ok (.iconst 2, 1) := by decide +kernel
theorem dX6_hour_40 : decode cX6_hour 40 = .ok (.iaload, 1) := by decide +kernel
theorem dX6_hour_41 : decode cX6_hour 41 = .ok (.putfield 58, 3) := by decide +kernel
theorem dX6_hour_44 : decode cX6_hour 44 = .ok (.iload_n 1, 1) := by decide +kernel
theorem dX6_hour_45 : decode cX6_hour 45 = .ok (.ireturn, 1) := by decide +kernel
def j_X6_hour (F : Nat) (st : sw_St) : Option (Int32 × sw_St) :=
(if (st.1 63 1) = 0 then (
 some (((-4) : Int32), st))
else (
 (if (st.1 64 0) = 40 then (
  some (((-2) : Int32), st))
 else (
  bd (j_X6_keepPast F st) (fun (_ : Unit) (s5 : sw_St) =>
  bd (j_X6_pass F 0 s5) (fun (r7 : Int32) (s8 : sw_St) =>
  nm (sw_setC s8 63 9 (s8.1 64 2)) (fun (s10 : sw_St) =>
  some ((r7 : Int32), s10))))))))
set_option maxHeartbeats 4000000 in
set_option maxRecDepth 100000 in
theorem c_X6_hour (F : Nat) (st : sw_St) {r : Int32} {st1 : sw_St} (h : j_X6_hour F  st = some (r, st1)) : sw_CI yX6_hour (.code yX6_hour cX6_hour 2 (some .int)) 2 (fun g => [.ref (g.1 63)]) st r st1 := by
  refine sw_entI RX6 (fun g => [(0, .ref (g.1 63))]) (by decide) rfl (fun _ => Nat.le_of_ble_eq_true rfl) (fun _ => rfl) ?_
  intro p l e s m args below meth c g X hr hlk
  unfold j_X6_hour at h
  refine sw_aload_n X 0 rfl rfl dX6_hour_0 ?_
  refine sw_getI X sw_cl6 (show sw_kd 63 = 6 from rfl) (k := 1) rfl (by decide) wf_X6_136 dX6_hour_1 ?_
  refine sw_if_ne X 10 (by decide) dX6_hour_4 (fun q1 => ?_) (fun q1 => ?_)
  · have h := ite_F h q1
    refine sw_aload_n X 0 rfl rfl dX6_hour_10 ?_
    refine sw_getR X sw_cl6 (show sw_kd 63 = 6 from rfl) (k := 0) rfl (by decide) (o1 := 64) rfl wf_X6_7 dX6_hour_11 ?_
    refine sw_iconst X (v := 0) (by decide) dX6_hour_14 ?_
    refine sw_iald X (show sw_kd 64 = 8 from rfl) (n := 835) rfl (i := 0) (by unfold vp_in; decide) dX6_hour_15 ?_
    refine sw_bipush X (v := 40) (by decide) dX6_hour_16 ?_
    refine sw_icmp_ne X 24 (by decide) dX6_hour_18 (fun q3 => ?_) (fun q3 => ?_)
    · have h := ite_F h q3
      refine sw_aload_n X 0 rfl rfl dX6_hour_24 ?_
      obtain ⟨u11, s5, c4, h⟩ := bd_E h
      refine sw_callVV X (o := 63) (As := (fun g => [])) sw_cl6 (show sw_kd 63 = 6 from rfl) ws_X6_keepPast (by omega) (c_X6_keepPast F st c4) rfl rfl (Nat.le_of_ble_eq_true rfl) wm_X6_164 dX6_hour_25 ?_
      refine sw_aload_n X 0 rfl rfl dX6_hour_28 ?_
      refine sw_iconst X (v := 0) (by decide) dX6_hour_29 ?_
      obtain ⟨r7, s8, c6, h⟩ := bd_E h
      refine sw_callVI X (o := 63) (As := (fun g => [.int 0])) sw_cl6 (show sw_kd 63 = 6 from rfl) ws_X6_pass (by omega) (c_X6_pass F 0 s5 c6) rfl rfl (Nat.le_of_ble_eq_true rfl) wm_X6_176 dX6_hour_30 ?_
      refine sw_istore_n X [(1, .int r7), (0, .ref (g.1 63))] rfl (by decide) rfl dX6_hour_33 ?_
      refine sw_aload_n X 1 rfl rfl dX6_hour_34 ?_
      refine sw_aload_n X 1 rfl rfl dX6_hour_35 ?_
      refine sw_getR X sw_cl6 (show sw_kd 63 = 6 from rfl) (k := 0) rfl (by decide) (o1 := 64) rfl wf_X6_7 dX6_hour_36 ?_
      refine sw_iconst X (v := 2) (by decide) dX6_hour_39 ?_
      refine sw_iald X (show sw_kd 64 = 8 from rfl) (n := 835) rfl (i := 2) (by unfold vp_in; decide) dX6_hour_40 ?_
      refine sw_putI X sw_cl6 (show sw_kd 63 = 6 from rfl) (k := 9) rfl (by decide) rfl rfl wf_X6_58 dX6_hour_41 (fun s10 es10 => ?_)
      have h := nm_E h es10
      refine sw_iload_n X 0 rfl rfl dX6_hour_44 ?_
      exact sw_iret X hr hlk dX6_hour_45 h
    · have h := ite_T h q3
      refine sw_bipush X (v := (-2)) (by decide) dX6_hour_21 ?_
      exact sw_iret X hr hlk dX6_hour_23 h
  · have h := ite_T h q1
    refine sw_bipush X (v := (-4)) (by decide) dX6_hour_7 ?_
    exact sw_iret X hr hlk dX6_hour_9 h
theorem dX6_frost_0 : decode cX6_frost 0 = .ok (.iload_n 1, 1) := by decide +kernel
theorem dX6_frost_1 : decode cX6_frost 1 = .ok (.i2l, 1) := by decide +kernel
theorem dX6_frost_2 : decode cX6_frost 2 = .ok (.lconst 0, 1) := by decide +kernel
theorem dX6_frost_3 : decode cX6_frost 3 = .ok (.ldc2_w 67, 3) := by decide +kernel
theorem dX6_frost_6 : decode cX6_frost 6 = .ok (.invokestatic 63, 3) := by decide +kernel
theorem dX6_frost_9 : decode cX6_frost 9 = .ok (.ifCond .ne 5, 3) := by decide +kernel
theorem dX6_frost_12 : decode cX6_frost 12 = .ok (.iconst (-1), 1) := by decide +kernel
theorem dX6_frost_13 : decode cX6_frost 13 = .ok (.ireturn, 1) := by decide +kernel
theorem dX6_frost_14 : decode cX6_frost 14 = .ok (.aload_n 0, 1) := by decide +kernel
theorem dX6_frost_15 : decode cX6_frost 15 = .ok (.getfield 136, 3) := by decide +kernel
theorem dX6_frost_18 : decode cX6_frost 18 = .ok (.ifCond .eq 13, 3) := by decide +kernel
theorem dX6_frost_21 : decode cX6_frost 21 = .ok (.aload_n 0, 1) := by decide +kernel
theorem dX6_frost_22 : decode cX6_frost 22 = .ok (.getfield 7, 3) := by decide +kernel
theorem dX6_frost_25 : decode cX6_frost 25 = .ok (.iconst 4, 1) := by decide +kernel
theorem dX6_frost_26 : decode cX6_frost 26 = .ok (.iaload, 1) := by decide +kernel
theorem dX6_frost_27 : decode cX6_frost 27 = .ok (.iload_n 1, 1) := by decide +kernel
theorem dX6_frost_28 : decode cX6_frost 28 = .ok (.if_icmp .ne 6, 3) := by decide +kernel
theorem dX6_frost_31 : decode cX6_frost 31 = .ok (.bipush (-4), 2) := by decide +kernel
theorem dX6_frost_33 : decode cX6_frost 33 = .ok (.ireturn, 1) := by decide +kernel
theorem dX6_frost_34 : decode cX6_frost 34 = .ok (.aload_n 0, 1) := by decide +kernel
theorem dX6_frost_35 : decode cX6_frost 35 = .ok (.getfield 7, 3) := by decide +kernel
theorem dX6_frost_38 : decode cX6_frost 38 = .ok (.iconst 0, 1) := by decide +kernel
theorem dX6_frost_39 : decode cX6_frost 39 = .ok (.iaload, 1) := by decide +kernel
theorem dX6_frost_40 : decode cX6_frost 40 = .ok (.bipush 40, 2) := by decide +kernel
theorem dX6_frost_42 : decode cX6_frost 42 = .ok (.if_icmp .ne 6, 3) := by decide +kernel
theorem dX6_frost_45 : decode cX6_frost 45 = .ok (.bipush (-2), 2) := by decide +kernel
theorem dX6_frost_47 : decode cX6_frost 47 = .ok (.ireturn, 1) := by decide +kernel
theorem dX6_frost_48 : decode cX6_frost 48 = .ok (.aload_n 0, 1) := by decide +kernel
theorem dX6_frost_49 : decode cX6_frost 49 = .ok (.invokevirtual 164, 3) := by decide +kernel
theorem dX6_frost_52 : decode cX6_frost 52 = .ok (.aload_n 0, 1) := by decide +kernel
theorem dX6_frost_53 : decode cX6_frost 53 = .ok (.getfield 7, 3) := by decide +kernel
theorem dX6_frost_56 : decode cX6_frost 56 = .ok (.iconst 4, 1) := by decide +kernel
theorem dX6_frost_57 : decode cX6_frost 57 = .ok (.iaload, 1) := by decide +kernel
theorem dX6_frost_58 : decode cX6_frost 58 = .ok (.istore_n 2, 1) := by decide +kernel
theorem dX6_frost_59 : decode cX6_frost 59 = .ok (.aload_n 0, 1) := by decide +kernel
theorem dX6_frost_60 : decode cX6_frost 60 = .ok (.getfield 7, 3) := by decide +kernel
theorem dX6_frost_63 : decode cX6_frost 63 = .ok (.iconst 4, 1) := by decide +kernel
theorem dX6_frost_64 : decode cX6_frost 64 = .ok (.iload_n 1, 1) := by decide +kernel
theorem dX6_frost_65 : decode cX6_frost 65 = .ok (.iastore, 1) := by decide +kernel
theorem dX6_frost_66 : decode cX6_frost 66 = .ok (.iload_n 2, 1) := by decide +kernel
theorem dX6_frost_67 : decode cX6_frost 67 = .ok (.ireturn, 1) := by decide +kernel
def j_X6_frost (F : Nat) (a1 : Int32) (st : sw_St) : Option (Int32 × sw_St) :=
bo (j_X6_in F ((a1 : Int32).toInt64) 0 3 st) (fun (r2 : Int32) =>
(if r2 = 0 then (
 some (((-1) : Int32), st))
else (
 jn (
   some (((-4) : Int32), st)) (fun k4 =>
  (if (st.1 63 1) = 0 then (
   k4)
  else (
   (if (st.1 64 4) = a1 then (
    k4)
   else (
    (if (st.1 64 0) = 40 then (
     some (((-2) : Int32), st))
    else (
     bd (j_X6_keepPast F st) (fun (_ : Unit) (s12 : sw_St) =>
     nm (s12.1 64 4) (fun (x14 : Int32) =>
     nm (sw_setC s12 64 4 a1) (fun (s16 : sw_St) =>
     some ((x14 : Int32), s16))))))))))))))
set_option maxHeartbeats 4000000 in
set_option maxRecDepth 100000 in
theorem c_X6_frost (F : Nat) (a1 : Int32) (st : sw_St) {r : Int32} {st1 : sw_St} (h : j_X6_frost F a1 st = some (r, st1)) : sw_CI yX6_frost (.code yX6_frost cX6_frost 3 (some .int)) 2 (fun g => [.ref (g.1 63), .int a1]) st r st1 := by
  refine sw_entI RX6 (fun g => [(0, .ref (g.1 63)), (1, .int a1)]) (by decide) rfl (fun _ => Nat.le_of_ble_eq_true rfl) (fun _ => rfl) ?_
  intro p l e s m args below meth c g X hr hlk
  unfold j_X6_frost at h
  refine sw_iload_n X 1 rfl rfl dX6_frost_0 ?_
  refine sw_i2l X dX6_frost_1 ?_
  refine sw_lconst X (v := 0) (by decide) dX6_frost_2 ?_
  refine sw_ldc2 X (v := 3) wl_X6_67 dX6_frost_3 ?_
  obtain ⟨r2, c1, h⟩ := bo_E h
  refine sw_callSI X (As := (fun g => [.long ((a1 : Int32).toInt64), .long 0, .long 3])) ws_X6_in (by omega) (c_X6_in F ((a1 : Int32).toInt64) 0 3 st c1) rfl rfl (Nat.le_of_ble_eq_true rfl) wm_X6_63 dX6_frost_6 ?_
  refine sw_if_ne X 14 (by decide) dX6_frost_9 (fun q3 => ?_) (fun q3 => ?_)
  · have h := ite_F h q3
    refine sw_aload_n X 0 rfl rfl dX6_frost_14 ?_
    refine sw_getI X sw_cl6 (show sw_kd 63 = 6 from rfl) (k := 1) rfl (by decide) wf_X6_136 dX6_frost_15 ?_
    refine jn0_E (sw_V p l e 2 s m args below meth c g (sw_A g s.heap.size) (sw_QI below g args s r st1) 3 31 [] [] st) h (fun h => ?_) (fun k4 J5 h => ?_)
    · refine sw_bipush X (v := (-4)) (by decide) dX6_frost_31 ?_
      exact sw_iret X hr hlk dX6_frost_33 h
    · refine sw_if_eq X 31 (by decide) dX6_frost_18 (fun q6 => ?_) (fun q6 => ?_)
      · have h := ite_T h q6
        refine sw_sub [] rfl ?_
        exact J5  h
      · have h := ite_F h q6
        refine sw_aload_n X 0 rfl rfl dX6_frost_21 ?_
        refine sw_getR X sw_cl6 (show sw_kd 63 = 6 from rfl) (k := 0) rfl (by decide) (o1 := 64) rfl wf_X6_7 dX6_frost_22 ?_
        refine sw_iconst X (v := 4) (by decide) dX6_frost_25 ?_
        refine sw_iald X (show sw_kd 64 = 8 from rfl) (n := 835) rfl (i := 4) (by unfold vp_in; decide) dX6_frost_26 ?_
        refine sw_iload_n X 1 rfl rfl dX6_frost_27 ?_
        refine sw_icmp_ne X 34 (by decide) dX6_frost_28 (fun q8 => ?_) (fun q8 => ?_)
        · have h := ite_F h q8
          refine sw_aload_n X 0 rfl rfl dX6_frost_34 ?_
          refine sw_getR X sw_cl6 (show sw_kd 63 = 6 from rfl) (k := 0) rfl (by decide) (o1 := 64) rfl wf_X6_7 dX6_frost_35 ?_
          refine sw_iconst X (v := 0) (by decide) dX6_frost_38 ?_
          refine sw_iald X (show sw_kd 64 = 8 from rfl) (n := 835) rfl (i := 0) (by unfold vp_in; decide) dX6_frost_39 ?_
          refine sw_bipush X (v := 40) (by decide) dX6_frost_40 ?_
          refine sw_icmp_ne X 48 (by decide) dX6_frost_42 (fun q10 => ?_) (fun q10 => ?_)
          · have h := ite_F h q10
            refine sw_aload_n X 0 rfl rfl dX6_frost_48 ?_
            obtain ⟨u17, s12, c11, h⟩ := bd_E h
            refine sw_callVV X (o := 63) (As := (fun g => [])) sw_cl6 (show sw_kd 63 = 6 from rfl) ws_X6_keepPast (by omega) (c_X6_keepPast F st c11) rfl rfl (Nat.le_of_ble_eq_true rfl) wm_X6_164 dX6_frost_49 ?_
            refine sw_aload_n X 0 rfl rfl dX6_frost_52 ?_
            refine sw_getR X sw_cl6 (show sw_kd 63 = 6 from rfl) (k := 0) rfl (by decide) (o1 := 64) rfl wf_X6_7 dX6_frost_53 ?_
            refine sw_iconst X (v := 4) (by decide) dX6_frost_56 ?_
            refine sw_iald X (show sw_kd 64 = 8 from rfl) (n := 835) rfl (i := 4) (by unfold vp_in; decide) dX6_frost_57 ?_
            refine sw_topi (fun x14 ex14 => ?_)
            have h := nm_E h ex14
            refine sw_istore_n X [(2, .int x14), (0, .ref (g.1 63)), (1, .int a1)] rfl (by decide) rfl dX6_frost_58 ?_
            refine sw_aload_n X 1 rfl rfl dX6_frost_59 ?_
            refine sw_getR X sw_cl6 (show sw_kd 63 = 6 from rfl) (k := 0) rfl (by decide) (o1 := 64) rfl wf_X6_7 dX6_frost_60 ?_
            refine sw_iconst X (v := 4) (by decide) dX6_frost_63 ?_
            refine sw_iload_n X 2 rfl rfl dX6_frost_64 ?_
            refine sw_iast X (show sw_kd 64 = 8 from rfl) (n := 835) rfl (i := 4) (by unfold vp_in; decide) dX6_frost_65 (fun s16 es16 => ?_)
            have h := nm_E h es16
            refine sw_iload_n X 0 rfl rfl dX6_frost_66 ?_
            exact sw_iret X hr hlk dX6_frost_67 h
          · have h := ite_T h q10
            refine sw_bipush X (v := (-2)) (by decide) dX6_frost_45 ?_
            exact sw_iret X hr hlk dX6_frost_47 h
        · have h := ite_T h q8
          refine sw_sub [] rfl ?_
          exact J5  h
  · have h := ite_T h q3
    refine sw_iconst X (v := (-1)) (by decide) dX6_frost_12 ?_
    exact sw_iret X hr hlk dX6_frost_13 h
