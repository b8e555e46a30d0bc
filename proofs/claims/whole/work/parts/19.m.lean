theorem dX5_thoseKept_0 : decode cX5_thoseKept 0 = .ok (.iconst 0, 1) := by decide +kernel
theorem dX5_thoseKept_1 : decode cX5_thoseKept 1 = .ok (.istore_n 1, 1) := by decide +kernel
theorem dX5_thoseKept_2 : decode cX5_thoseKept 2 = .ok (.aload_n 0, 1) := by decide +kernel
theorem dX5_thoseKept_3 : decode cX5_thoseKept 3 = .ok (.getfield 40, 3) := by decide +kernel
theorem dX5_thoseKept_6 : decode cX5_thoseKept 6 = .ok (.astore_n 2, 1) := by decide +kernel
theorem dX5_thoseKept_7 : decode cX5_thoseKept 7 = .ok (.aload_n 2, 1) := by decide +kernel
theorem dX5_thoseKept_8 : decode cX5_thoseKept 8 = .ok (.arraylength, 1) := by decide +kernel
theorem dX5_thoseKept_9 : decode cX5_thoseKept 9 = .ok (.istore_n 3, 1) := by decide +kernel
theorem dX5_thoseKept_10 : decode cX5_thoseKept 10 = .ok (.iconst 0, 1) := by decide +kernel
theorem dX5_thoseKept_11 : decode cX5_thoseKept 11 = .ok (.istore 4, 2) := by decide +kernel
theorem dX5_thoseKept_13 : decode cX5_thoseKept 13 = .ok (.iload 4, 2) := by decide +kernel
theorem dX5_thoseKept_15 : decode cX5_thoseKept 15 = .ok (.iload_n 3, 1) := by decide +kernel
theorem dX5_thoseKept_16 : decode cX5_thoseKept 16 = .ok (.if_icmp .ge 28, 3) := by decide +kernel
theorem dX5_thoseKept_19 : decode cX5_thoseKept 19 = .ok (.aload_n 2, 1) := by decide +kernel
theorem dX5_thoseKept_20 : decode cX5_thoseKept 20 = .ok (.iload 4, 2) := by decide +kernel
theorem dX5_thoseKept_22 : decode cX5_thoseKept 22 = .ok (.baload, 1) := by decide +kernel
theorem dX5_thoseKept_23 : decode cX5_thoseKept 23 = .ok (.istore 5, 2) := by decide +kernel
theorem dX5_thoseKept_25 : decode cX5_thoseKept 25 = .ok (.iload_n 1, 1) := by decide +kernel
theorem dX5_thoseKept_26 : decode cX5_thoseKept 26 = .ok (.iload 5, 2) := by decide +kernel
theorem dX5_thoseKept_28 : decode cX5_thoseKept 28 = .ok (.ifCond .eq 7, 3) := by decide +kernel
theorem dX5_thoseKept_31 : decode cX5_thoseKept 31 = .ok (.iconst 1, 1) := by decide +kernel
theorem dX5_thoseKept_32 : decode cX5_thoseKept 32 = .ok (.goto 4, 3) := by decide +kernel
theorem dX5_thoseKept_35 : decode cX5_thoseKept 35 = .ok (.iconst 0, 1) := by decide +kernel
theorem dX5_thoseKept_36 : decode cX5_thoseKept 36 = .ok (.iadd, 1) := by decide +kernel
theorem dX5_thoseKept_37 : decode cX5_thoseKept 37 = .ok (.istore_n 1, 1) := by decide +kernel
theorem dX5_thoseKept_38 : decode cX5_thoseKept 38 = .ok (.iinc 4 1, 3) := by decide +kernel
theorem dX5_thoseKept_41 : decode cX5_thoseKept 41 = .ok (.goto (-28), 3) := by decide +kernel
theorem dX5_thoseKept_44 : decode cX5_thoseKept 44 = .ok (.iload_n 1, 1) := by decide +kernel
theorem dX5_thoseKept_45 : decode cX5_thoseKept 45 = .ok (.ireturn, 1) := by decide +kernel
def j_X5_thoseKept (F : Nat) (st : sw_St) : Option Int32 :=
nm (nI (sw_ln 51)) (fun (x1 : Int32) =>
lz2 (fun f4 (x2 : Int32) (x3 : Int32) =>
 (if x1 ≤ x3 then (
  some (x2 : Int32))
 else (
  bnd x3 3 (
  nm (st.1 51 (x3 : Int32).toNatClampNeg) (fun (x8 : Int32) =>
  jn (fun (x9 : Int32) => 
    nm (x2 + x9) (fun (x12 : Int32) =>
    nm (x3 + 1) (fun (x13 : Int32) =>
    f4 x12 x13))) (fun k10 =>
   (if x8 = 0 then (
    k10 0)
   else (
    k10 1)))))))) F 0 0)
set_option maxHeartbeats 4000000 in
set_option maxRecDepth 100000 in
theorem c_X5_thoseKept (F : Nat) (st : sw_St) {r : Int32} (h : j_X5_thoseKept F  st = some r) : sw_CI yX5_thoseKept (.code yX5_thoseKept cX5_thoseKept 6 (some .int)) 1 (fun g => [.ref (g.1 0)]) st r st := by
  refine sw_entI RX5 (fun g => [(0, .ref (g.1 0))]) (by decide) rfl (fun _ => Nat.le_of_ble_eq_true rfl) (fun _ => rfl) ?_
  intro p l e s m args below meth c g X hr hlk
  unfold j_X5_thoseKept at h
  refine sw_iconst X (v := 0) (by decide) dX5_thoseKept_0 ?_
  refine sw_istore_n X [(1, .int 0), (0, .ref (g.1 0))] rfl (by decide) rfl dX5_thoseKept_1 ?_
  refine sw_aload_n X 1 rfl rfl dX5_thoseKept_2 ?_
  refine sw_getR X sw_cl5 (show sw_kd 0 = 5 from rfl) (k := 7) rfl (by decide) (o1 := 51) rfl wf_X5_40 dX5_thoseKept_3 ?_
  refine sw_astore_n X [(2, .ref (g.1 51)), (1, .int 0), (0, .ref (g.1 0))] rfl (by decide) rfl dX5_thoseKept_6 ?_
  refine sw_aload_n X 0 rfl rfl dX5_thoseKept_7 ?_
  refine sw_alenZ X (show sw_kd 51 = 9 from rfl) dX5_thoseKept_8 ?_
  refine sw_topi (fun x1 ex1 => ?_)
  have h := nm_E h ex1
  refine sw_istore_n X [(3, .int x1), (2, .ref (g.1 51)), (1, .int 0), (0, .ref (g.1 0))] rfl (by decide) rfl dX5_thoseKept_9 ?_
  refine sw_iconst X (v := 0) (by decide) dX5_thoseKept_10 ?_
  refine sw_istore X [(4, .int 0), (3, .int x1), (2, .ref (g.1 51)), (1, .int 0), (0, .ref (g.1 0))] (by decide) rfl dX5_thoseKept_11 ?_
  refine sw_sub [3, 2, 1, 0] rfl ?_
  refine lz2_E (fun (x2 : Int32) (x3 : Int32) => sw_V p l e 1 s m args below meth c g (sw_A g s.heap.size) (sw_QI below g args s r st) 6 13 [(1, .int x2), (2, .ref (g.1 51)), (3, .int x1), (4, .int x3)] [] st) h (fun f4 ih5 x2 x3 h => ?_)
  refine sw_iload X 3 rfl dX5_thoseKept_13 ?_
  refine sw_iload_n X 2 rfl rfl dX5_thoseKept_15 ?_
  refine sw_icmp_ge X 44 (by decide) dX5_thoseKept_16 (fun q6 => ?_) (fun q6 => ?_)
  · have h := ite_T h q6
    refine sw_iload_n X 0 rfl rfl dX5_thoseKept_44 ?_
    exact sw_iret X hr hlk dX5_thoseKept_45 (by cases h; rfl)
  · have h := ite_F h q6
    refine sw_aload_n X 1 rfl rfl dX5_thoseKept_19 ?_
    refine sw_iload X 3 rfl dX5_thoseKept_20 ?_
    obtain ⟨q7, h⟩ := bnd_E h
    refine sw_zald X (show sw_kd 51 = 9 from rfl) (n := 3) rfl q7 dX5_thoseKept_22 ?_
    refine sw_topi (fun x8 ex8 => ?_)
    have h := nm_E h ex8
    refine sw_istore X [(5, .int x8), (1, .int x2), (2, .ref (g.1 51)), (3, .int x1), (4, .int x3)] (by decide) rfl dX5_thoseKept_23 ?_
    refine sw_iload_n X 1 rfl rfl dX5_thoseKept_25 ?_
    refine sw_iload X 0 rfl dX5_thoseKept_26 ?_
    refine jn1_E (fun (x9 : Int32) => sw_V p l e 1 s m args below meth c g (sw_A g s.heap.size) (sw_QI below g args s r st) 6 36 [(2, .ref (g.1 51)), (3, .int x1), (4, .int x3)] [.int x9, .int x2] st) h (fun x9 h => ?_) (fun k10 J11 h => ?_)
    · refine sw_iadd X dX5_thoseKept_36 ?_
      refine sw_topi (fun x12 ex12 => ?_)
      have h := nm_E h ex12
      refine sw_istore_n X [(1, .int x12), (2, .ref (g.1 51)), (3, .int x1), (4, .int x3)] rfl (by decide) rfl dX5_thoseKept_37 ?_
      obtain ⟨x13, ex13⟩ : ∃ y : Int32, y = x3 + 1 := ⟨_, rfl⟩
      have h := nm_E h ex13
      refine sw_iinc X 3 x13 [(4, .int x13), (1, .int x12), (2, .ref (g.1 51)), (3, .int x1)] rfl (by rw [ex13]; rfl) (by decide) rfl dX5_thoseKept_38 ?_
      refine sw_goto X 13 (by decide) dX5_thoseKept_41 ?_
      refine sw_sub [1, 2, 3, 0] rfl ?_
      exact ih5 _ _ h
    · refine sw_if_eq X 35 (by decide) dX5_thoseKept_28 (fun q14 => ?_) (fun q14 => ?_)
      · have h := ite_T h q14
        refine sw_iconst X (v := 0) (by decide) dX5_thoseKept_35 ?_
        refine sw_sub [2, 3, 4] rfl ?_
        exact J11 _ h
      · have h := ite_F h q14
        refine sw_iconst X (v := 1) (by decide) dX5_thoseKept_31 ?_
        refine sw_goto X 36 (by decide) dX5_thoseKept_32 ?_
        refine sw_sub [2, 3, 4] rfl ?_
        exact J11 _ h
theorem dX5_thoseThere_0 : decode cX5_thoseThere 0 = .ok (.iconst 0, 1) := by decide +kernel
theorem dX5_thoseThere_1 : decode cX5_thoseThere 1 = .ok (.istore_n 1, 1) := by decide +kernel
theorem dX5_thoseThere_2 : decode cX5_thoseThere 2 = .ok (.aload_n 0, 1) := by decide +kernel
theorem dX5_thoseThere_3 : decode cX5_thoseThere 3 = .ok (.astore_n 2, 1) := by decide +kernel
theorem dX5_thoseThere_4 : decode cX5_thoseThere 4 = .ok (.aload_n 2, 1) := by decide +kernel
theorem dX5_thoseThere_5 : decode cX5_thoseThere 5 = .ok (.arraylength, 1) := by decide +kernel
theorem dX5_thoseThere_6 : decode cX5_thoseThere 6 = .ok (.istore_n 3, 1) := by decide +kernel
theorem dX5_thoseThere_7 : decode cX5_thoseThere 7 = .ok (.iconst 0, 1) := by decide +kernel
theorem dX5_thoseThere_8 : decode cX5_thoseThere 8 = .ok (.istore 4, 2) := by decide +kernel
theorem dX5_thoseThere_10 : decode cX5_thoseThere 10 = .ok (.iload 4, 2) := by decide +kernel
theorem dX5_thoseThere_12 : decode cX5_thoseThere 12 = .ok (.iload_n 3, 1) := by decide +kernel
theorem dX5_thoseThere_13 : decode cX5_thoseThere 13 = .ok (.if_icmp .ge 28, 3) := by decide +kernel
theorem dX5_thoseThere_16 : decode cX5_thoseThere 16 = .ok (.aload_n 2, 1) := by decide +kernel
theorem dX5_thoseThere_17 : decode cX5_thoseThere 17 = .ok (.iload 4, 2) := by decide +kernel
theorem dX5_thoseThere_19 : decode cX5_thoseThere 19 = .ok (.iaload, 1) := by decide +kernel
theorem dX5_thoseThere_20 : decode cX5_thoseThere 20 = .ok (.istore 5, 2) := by decide +kernel
theorem dX5_thoseThere_22 : decode cX5_thoseThere 22 = .ok (.iload_n 1, 1) := by decide +kernel
theorem dX5_thoseThere_23 : decode cX5_thoseThere 23 = .ok (.iload 5, 2) := by decide +kernel
theorem dX5_thoseThere_25 : decode cX5_thoseThere 25 = .ok (.ifCond .lt 7, 3) := by decide +kernel
theorem dX5_thoseThere_28 : decode cX5_thoseThere 28 = .ok (.iconst 1, 1) := by decide +kernel
theorem dX5_thoseThere_29 : decode cX5_thoseThere 29 = .ok (.goto 4, 3) := by decide +kernel
theorem dX5_thoseThere_32 : decode cX5_thoseThere 32 = .ok (.iconst 0, 1) := by decide +kernel
theorem dX5_thoseThere_33 : decode cX5_thoseThere 33 = .ok (.iadd, 1) := by decide +kernel
theorem dX5_thoseThere_34 : decode cX5_thoseThere 34 = .ok (.istore_n 1, 1) := by decide +kernel
theorem dX5_thoseThere_35 : decode cX5_thoseThere 35 = .ok (.iinc 4 1, 3) := by decide +kernel
theorem dX5_thoseThere_38 : decode cX5_thoseThere 38 = .ok (.goto (-28), 3) := by decide +kernel
theorem dX5_thoseThere_41 : decode cX5_thoseThere 41 = .ok (.iload_n 1, 1) := by decide +kernel
theorem dX5_thoseThere_42 : decode cX5_thoseThere 42 = .ok (.ireturn, 1) := by decide +kernel
def j_X5_thoseThere (F : Nat) (a : Nat) (st : sw_St) : Option Int32 :=
nm (nI (sw_ln a)) (fun (x1 : Int32) =>
lz2 (fun f4 (x2 : Int32) (x3 : Int32) =>
 (if x1 ≤ x3 then (
  some (x2 : Int32))
 else (
  bnd x3 (sw_ln a) (
  nm (st.1 a (x3 : Int32).toNatClampNeg) (fun (x8 : Int32) =>
  jn (fun (x9 : Int32) => 
    nm (x2 + x9) (fun (x12 : Int32) =>
    nm (x3 + 1) (fun (x13 : Int32) =>
    f4 x12 x13))) (fun k10 =>
   (if x8 < 0 then (
    k10 0)
   else (
    k10 1)))))))) F 0 0)
set_option maxHeartbeats 4000000 in
set_option maxRecDepth 100000 in
theorem c_X5_thoseThere (F : Nat) {a : Nat} (ha : sw_kd a = 8) (st : sw_St) {r : Int32} (h : j_X5_thoseThere F a st = some r) : sw_CI yX5_thoseThere (.code yX5_thoseThere cX5_thoseThere 6 (some .int)) 1 (fun g => [.ref (g.1 a)]) st r st := by
  refine sw_entI RX5 (fun g => [(0, .ref (g.1 a))]) (by decide) rfl (fun _ => Nat.le_of_ble_eq_true rfl) (fun _ => rfl) ?_
  intro p l e s m args below meth c g X hr hlk
  unfold j_X5_thoseThere at h
  refine sw_iconst X (v := 0) (by decide) dX5_thoseThere_0 ?_
  refine sw_istore_n X [(1, .int 0), (0, .ref (g.1 a))] rfl (by decide) rfl dX5_thoseThere_1 ?_
  refine sw_aload_n X 1 rfl rfl dX5_thoseThere_2 ?_
  refine sw_astore_n X [(2, .ref (g.1 a)), (1, .int 0), (0, .ref (g.1 a))] rfl (by decide) rfl dX5_thoseThere_3 ?_
  refine sw_aload_n X 0 rfl rfl dX5_thoseThere_4 ?_
  refine sw_alenI X (show sw_kd a = 8 from ha) dX5_thoseThere_5 ?_
  refine sw_topi (fun x1 ex1 => ?_)
  have h := nm_E h ex1
  refine sw_istore_n X [(3, .int x1), (2, .ref (g.1 a)), (1, .int 0), (0, .ref (g.1 a))] rfl (by decide) rfl dX5_thoseThere_6 ?_
  refine sw_iconst X (v := 0) (by decide) dX5_thoseThere_7 ?_
  refine sw_istore X [(4, .int 0), (3, .int x1), (2, .ref (g.1 a)), (1, .int 0), (0, .ref (g.1 a))] (by decide) rfl dX5_thoseThere_8 ?_
  refine sw_sub [3, 2, 1, 0] rfl ?_
  refine lz2_E (fun (x2 : Int32) (x3 : Int32) => sw_V p l e 1 s m args below meth c g (sw_A g s.heap.size) (sw_QI below g args s r st) 6 10 [(1, .int x2), (2, .ref (g.1 a)), (3, .int x1), (4, .int x3)] [] st) h (fun f4 ih5 x2 x3 h => ?_)
  refine sw_iload X 3 rfl dX5_thoseThere_10 ?_
  refine sw_iload_n X 2 rfl rfl dX5_thoseThere_12 ?_
  refine sw_icmp_ge X 41 (by decide) dX5_thoseThere_13 (fun q6 => ?_) (fun q6 => ?_)
  · have h := ite_T h q6
    refine sw_iload_n X 0 rfl rfl dX5_thoseThere_41 ?_
    exact sw_iret X hr hlk dX5_thoseThere_42 (by cases h; rfl)
  · have h := ite_F h q6
    refine sw_aload_n X 1 rfl rfl dX5_thoseThere_16 ?_
    refine sw_iload X 3 rfl dX5_thoseThere_17 ?_
    obtain ⟨q7, h⟩ := bnd_E h
    refine sw_iald X (show sw_kd a = 8 from ha) (n := (sw_ln a)) rfl q7 dX5_thoseThere_19 ?_
    refine sw_topi (fun x8 ex8 => ?_)
    have h := nm_E h ex8
    refine sw_istore X [(5, .int x8), (1, .int x2), (2, .ref (g.1 a)), (3, .int x1), (4, .int x3)] (by decide) rfl dX5_thoseThere_20 ?_
    refine sw_iload_n X 1 rfl rfl dX5_thoseThere_22 ?_
    refine sw_iload X 0 rfl dX5_thoseThere_23 ?_
    refine jn1_E (fun (x9 : Int32) => sw_V p l e 1 s m args below meth c g (sw_A g s.heap.size) (sw_QI below g args s r st) 6 33 [(2, .ref (g.1 a)), (3, .int x1), (4, .int x3)] [.int x9, .int x2] st) h (fun x9 h => ?_) (fun k10 J11 h => ?_)
    · refine sw_iadd X dX5_thoseThere_33 ?_
      refine sw_topi (fun x12 ex12 => ?_)
      have h := nm_E h ex12
      refine sw_istore_n X [(1, .int x12), (2, .ref (g.1 a)), (3, .int x1), (4, .int x3)] rfl (by decide) rfl dX5_thoseThere_34 ?_
      obtain ⟨x13, ex13⟩ : ∃ y : Int32, y = x3 + 1 := ⟨_, rfl⟩
      have h := nm_E h ex13
      refine sw_iinc X 3 x13 [(4, .int x13), (1, .int x12), (2, .ref (g.1 a)), (3, .int x1)] rfl (by rw [ex13]; rfl) (by decide) rfl dX5_thoseThere_35 ?_
      refine sw_goto X 10 (by decide) dX5_thoseThere_38 ?_
      refine sw_sub [1, 2, 3, 0] rfl ?_
      exact ih5 _ _ h
    · refine sw_if_lt X 32 (by decide) dX5_thoseThere_25 (fun q14 => ?_) (fun q14 => ?_)
      · have h := ite_T h q14
        refine sw_iconst X (v := 0) (by decide) dX5_thoseThere_32 ?_
        refine sw_sub [2, 3, 4] rfl ?_
        exact J11 _ h
      · have h := ite_F h q14
        refine sw_iconst X (v := 1) (by decide) dX5_thoseThere_28 ?_
        refine sw_goto X 33 (by decide) dX5_thoseThere_29 ?_
        refine sw_sub [2, 3, 4] rfl ?_
        exact J11 _ h
theorem dX5_count_0 : decode cX5_count 0 = .ok (.iload_n 1, 1) := by decide +kernel
theorem dX5_count_1 : decode cX5_count 1 = .ok (.tableswitch 148 0 10 #[59, 67, 75, 83, 91, 99, 107, 115, 127, 135, 143], 59) := by decide +kernel
theorem dX5_count_60 : decode cX5_count 60 = .ok (.aload_n 0, 1) := by decide +kernel
theorem dX5_count_61 : decode cX5_count 61 = .ok (.getfield 29, 3) := by decide +kernel
theorem dX5_count_64 : decode cX5_count 64 = .ok (.getfield 134, 3) := by decide +kernel
theorem dX5_count_67 : decode cX5_count 67 = .ok (.ireturn, 1) := by decide +kernel
theorem dX5_count_68 : decode cX5_count 68 = .ok (.aload_n 0, 1) := by decide +kernel
theorem dX5_count_69 : decode cX5_count 69 = .ok (.getfield 29, 3) := by decide +kernel
theorem dX5_count_72 : decode cX5_count 72 = .ok (.getfield 166, 3) := by decide +kernel
theorem dX5_count_75 : decode cX5_count 75 = .ok (.ireturn, 1) := by decide +kernel
theorem dX5_count_76 : decode cX5_count 76 = .ok (.aload_n 0, 1) := by decide +kernel
theorem dX5_count_77 : decode cX5_count 77 = .ok (.getfield 29, 3) := by decide +kernel
theorem dX5_count_80 : decode cX5_count 80 = .ok (.getfield 180, 3) := by decide +kernel
theorem dX5_count_83 : decode cX5_count 83 = .ok (.ireturn, 1) := by decide +kernel
theorem dX5_count_84 : decode cX5_count 84 = .ok (.aload_n 0, 1) := by decide +kernel
theorem dX5_count_85 : decode cX5_count 85 = .ok (.getfield 29, 3) := by decide +kernel
theorem dX5_count_88 : decode cX5_count 88 = .ok (.getfield 327, 3) := by decide +kernel
theorem dX5_count_91 : decode cX5_count 91 = .ok (.ireturn, 1) := by decide +kernel
theorem dX5_count_92 : decode cX5_count 92 = .ok (.aload_n 0, 1) := by decide +kernel
theorem dX5_count_93 : decode cX5_count 93 = .ok (.getfield 29, 3) := by decide +kernel
theorem dX5_count_96 : decode cX5_count 96 = .ok (.getfield 150, 3) := by decide +kernel
theorem dX5_count_99 : decode cX5_count 99 = .ok (.ireturn, 1) := by decide +kernel
theorem dX5_count_100 : decode cX5_count 100 = .ok (.aload_n 0, 1) := by decide +kernel
theorem dX5_count_101 : decode cX5_count 101 = .ok (.getfield 29, 3) := by decide +kernel
theorem dX5_count_104 : decode cX5_count 104 = .ok (.getfield 183, 3) := by decide +kernel
theorem dX5_count_107 : decode cX5_count 107 = .ok (.ireturn, 1) := by decide +kernel
theorem dX5_count_108 : decode cX5_count 108 = .ok (.aload_n 0, 1) := by decide +kernel
theorem dX5_count_109 : decode cX5_count 109 = .ok (.getfield 29, 3) := by decide +kernel
theorem dX5_count_112 : decode cX5_count 112 = .ok (.getfield 169, 3) := by decide +kernel
theorem dX5_count_115 : decode cX5_count 115 = .ok (.ireturn, 1) := by decide +kernel
theorem dX5_count_116 : decode cX5_count 116 = .ok (.aload_n 0, 1) := by decide +kernel
theorem dX5_count_117 : decode cX5_count 117 = .ok (.getfield 29, 3) := by decide +kernel
theorem dX5_count_120 : decode cX5_count 120 = .ok (.iconst 1, 1) := by decide +kernel
theorem dX5_count_121 : decode cX5_count 121 = .ok (.invokevirtual 330, 3) := by decide +kernel
theorem dX5_count_124 : decode cX5_count 124 = .ok (.invokestatic 172, 3) := by decide +kernel
theorem dX5_count_127 : decode cX5_count 127 = .ok (.ireturn, 1) := by decide +kernel
theorem dX5_count_128 : decode cX5_count 128 = .ok (.aload_n 0, 1) := by decide +kernel
theorem dX5_count_129 : decode cX5_count 129 = .ok (.getfield 14, 3) := by decide +kernel
theorem dX5_count_132 : decode cX5_count 132 = .ok (.invokestatic 333, 3) := by decide +kernel
theorem dX5_count_135 : decode cX5_count 135 = .ok (.ireturn, 1) := by decide +kernel
theorem dX5_count_136 : decode cX5_count 136 = .ok (.aload_n 0, 1) := by decide +kernel
theorem dX5_count_137 : decode cX5_count 137 = .ok (.getfield 23, 3) := by decide +kernel
theorem dX5_count_140 : decode cX5_count 140 = .ok (.invokestatic 333, 3) := by decide +kernel
theorem dX5_count_143 : decode cX5_count 143 = .ok (.ireturn, 1) := by decide +kernel
theorem dX5_count_144 : decode cX5_count 144 = .ok (.aload_n 0, 1) := by decide +kernel
theorem dX5_count_145 : decode cX5_count 145 = .ok (.invokevirtual 337, 3) := by decide +kernel
theorem dX5_count_148 : decode cX5_count 148 = .ok (.ireturn, 1) := by decide +kernel
theorem dX5_count_149 : decode cX5_count 149 = .ok (.iconst (-1), 1) := by decide +kernel
theorem dX5_count_150 : decode cX5_count 150 = .ok (.ireturn, 1) := by decide +kernel
def j_X5_count (F : Nat) (a1 : Int32) (st : sw_St) : Option Int32 :=
(if a1 = 0 then (
 some (st.1 15 0 : Int32))
else (
 (if a1 = 1 then (
  some (st.1 15 7 : Int32))
 else (
  (if a1 = 2 then (
   some (st.1 15 9 : Int32))
  else (
   (if a1 = 3 then (
    some (st.1 15 10 : Int32))
   else (
    (if a1 = 4 then (
     some (st.1 15 14 : Int32))
    else (
     (if a1 = 5 then (
      some (st.1 15 8 : Int32))
     else (
      (if a1 = 6 then (
       some (st.1 15 11 : Int32))
      else (
       (if a1 = 7 then (
        bo (j_X4_allOf F 15 1 st) (fun (r10 : Int32) =>
        bo (j_J6_bitCount_0f7a4 F r10 st) (fun (r12 : Int32) =>
        some (r12 : Int32))))
       else (
        (if a1 = 8 then (
         bo (j_X5_thoseThere F 8 st) (fun (r15 : Int32) =>
         some (r15 : Int32)))
        else (
         (if a1 = 9 then (
          bo (j_X5_thoseThere F 14 st) (fun (r18 : Int32) =>
          some (r18 : Int32)))
         else (
          (if a1 = 10 then (
           bo (j_X5_thoseKept F st) (fun (r21 : Int32) =>
           some (r21 : Int32)))
          else (
           some ((-1) : Int32)))))))))))))))))))))))
set_option maxHeartbeats 4000000 in
set_option maxRecDepth 100000 in
theorem c_X5_count (F : Nat) (a1 : Int32) (st : sw_St) {r : Int32} (h : j_X5_count F a1 st = some r) : sw_CI yX5_count (.code yX5_count cX5_count 2 (some .int)) 3 (fun g => [.ref (g.1 0), .int a1]) st r st := by
  refine sw_entI RX5 (fun g => [(0, .ref (g.1 0)), (1, .int a1)]) (by decide) rfl (fun _ => Nat.le_of_ble_eq_true rfl) (fun _ => rfl) ?_
  intro p l e s m args below meth c g X hr hlk
  unfold j_X5_count at h
  refine sw_iload_n X 1 rfl rfl dX5_count_0 ?_
  by_cases q1 : a1 = 0
  · have h := ite_T h q1
    refine sw_tabIn X (k := 0) (off := 59) 60 q1 (by decide) (by decide) (by decide) (by decide) dX5_count_1 ?_
    refine sw_aload_n X 0 rfl rfl dX5_count_60 ?_
    refine sw_getR X sw_cl5 (show sw_kd 0 = 5 from rfl) (k := 4) rfl (by decide) (o1 := 15) rfl wf_X5_29 dX5_count_61 ?_
    refine sw_getI X sw_cl4 (show sw_kd 15 = 4 from rfl) (k := 0) rfl (by decide) wf_X5_134 dX5_count_64 ?_
    exact sw_iret X hr hlk dX5_count_67 (by cases h; rfl)
  · have h := ite_F h q1
    by_cases q2 : a1 = 1
    · have h := ite_T h q2
      refine sw_tabIn X (k := 1) (off := 67) 68 q2 (by decide) (by decide) (by decide) (by decide) dX5_count_1 ?_
      refine sw_aload_n X 0 rfl rfl dX5_count_68 ?_
      refine sw_getR X sw_cl5 (show sw_kd 0 = 5 from rfl) (k := 4) rfl (by decide) (o1 := 15) rfl wf_X5_29 dX5_count_69 ?_
      refine sw_getI X sw_cl4 (show sw_kd 15 = 4 from rfl) (k := 7) rfl (by decide) wf_X5_166 dX5_count_72 ?_
      exact sw_iret X hr hlk dX5_count_75 (by cases h; rfl)
    · have h := ite_F h q2
      by_cases q3 : a1 = 2
      · have h := ite_T h q3
        refine sw_tabIn X (k := 2) (off := 75) 76 q3 (by decide) (by decide) (by decide) (by decide) dX5_count_1 ?_
        refine sw_aload_n X 0 rfl rfl dX5_count_76 ?_
        refine sw_getR X sw_cl5 (show sw_kd 0 = 5 from rfl) (k := 4) rfl (by decide) (o1 := 15) rfl wf_X5_29 dX5_count_77 ?_
        refine sw_getI X sw_cl4 (show sw_kd 15 = 4 from rfl) (k := 9) rfl (by decide) wf_X5_180 dX5_count_80 ?_
        exact sw_iret X hr hlk dX5_count_83 (by cases h; rfl)
      · have h := ite_F h q3
        by_cases q4 : a1 = 3
        · have h := ite_T h q4
          refine sw_tabIn X (k := 3) (off := 83) 84 q4 (by decide) (by decide) (by decide) (by decide) dX5_count_1 ?_
          refine sw_aload_n X 0 rfl rfl dX5_count_84 ?_
          refine sw_getR X sw_cl5 (show sw_kd 0 = 5 from rfl) (k := 4) rfl (by decide) (o1 := 15) rfl wf_X5_29 dX5_count_85 ?_
          refine sw_getI X sw_cl4 (show sw_kd 15 = 4 from rfl) (k := 10) rfl (by decide) wf_X5_327 dX5_count_88 ?_
          exact sw_iret X hr hlk dX5_count_91 (by cases h; rfl)
        · have h := ite_F h q4
          by_cases q5 : a1 = 4
          · have h := ite_T h q5
            refine sw_tabIn X (k := 4) (off := 91) 92 q5 (by decide) (by decide) (by decide) (by decide) dX5_count_1 ?_
            refine sw_aload_n X 0 rfl rfl dX5_count_92 ?_
            refine sw_getR X sw_cl5 (show sw_kd 0 = 5 from rfl) (k := 4) rfl (by decide) (o1 := 15) rfl wf_X5_29 dX5_count_93 ?_
            refine sw_getI X sw_cl4 (show sw_kd 15 = 4 from rfl) (k := 14) rfl (by decide) wf_X5_150 dX5_count_96 ?_
            exact sw_iret X hr hlk dX5_count_99 (by cases h; rfl)
          · have h := ite_F h q5
            by_cases q6 : a1 = 5
            · have h := ite_T h q6
              refine sw_tabIn X (k := 5) (off := 99) 100 q6 (by decide) (by decide) (by decide) (by decide) dX5_count_1 ?_
              refine sw_aload_n X 0 rfl rfl dX5_count_100 ?_
              refine sw_getR X sw_cl5 (show sw_kd 0 = 5 from rfl) (k := 4) rfl (by decide) (o1 := 15) rfl wf_X5_29 dX5_count_101 ?_
              refine sw_getI X sw_cl4 (show sw_kd 15 = 4 from rfl) (k := 8) rfl (by decide) wf_X5_183 dX5_count_104 ?_
              exact sw_iret X hr hlk dX5_count_107 (by cases h; rfl)
            · have h := ite_F h q6
              by_cases q7 : a1 = 6
              · have h := ite_T h q7
                refine sw_tabIn X (k := 6) (off := 107) 108 q7 (by decide) (by decide) (by decide) (by decide) dX5_count_1 ?_
                refine sw_aload_n X 0 rfl rfl dX5_count_108 ?_
                refine sw_getR X sw_cl5 (show sw_kd 0 = 5 from rfl) (k := 4) rfl (by decide) (o1 := 15) rfl wf_X5_29 dX5_count_109 ?_
                refine sw_getI X sw_cl4 (show sw_kd 15 = 4 from rfl) (k := 11) rfl (by decide) wf_X5_169 dX5_count_112 ?_
                exact sw_iret X hr hlk dX5_count_115 (by cases h; rfl)
              · have h := ite_F h q7
                by_cases q8 : a1 = 7
                · have h := ite_T h q8
                  refine sw_tabIn X (k := 7) (off := 115) 116 q8 (by decide) (by decide) (by decide) (by decide) dX5_count_1 ?_
                  refine sw_aload_n X 0 rfl rfl dX5_count_116 ?_
                  refine sw_getR X sw_cl5 (show sw_kd 0 = 5 from rfl) (k := 4) rfl (by decide) (o1 := 15) rfl wf_X5_29 dX5_count_117 ?_
                  refine sw_iconst X (v := 1) (by decide) dX5_count_120 ?_
                  obtain ⟨r10, c9, h⟩ := bo_E h
                  refine sw_callVI X (o := 15) (As := (fun g => [.int 1])) sw_cl4 (show sw_kd 15 = 4 from rfl) ws_X4_allOf (by omega) (c_X4_allOf F (show sw_kd 15 = 4 from rfl) 1 st c9) rfl rfl (Nat.le_of_ble_eq_true rfl) wm_X5_330 dX5_count_121 ?_
                  obtain ⟨r12, c11, h⟩ := bo_E h
                  refine sw_callSI X (As := (fun g => [.int r10])) ws_J6_bitCount_0f7a4 (by omega) (c_J6_bitCount_0f7a4 F r10 st c11) rfl rfl (Nat.le_of_ble_eq_true rfl) wm_X5_172 dX5_count_124 ?_
                  exact sw_iret X hr hlk dX5_count_127 (by cases h; rfl)
                · have h := ite_F h q8
                  by_cases q13 : a1 = 8
                  · have h := ite_T h q13
                    refine sw_tabIn X (k := 8) (off := 127) 128 q13 (by decide) (by decide) (by decide) (by decide) dX5_count_1 ?_
                    refine sw_aload_n X 0 rfl rfl dX5_count_128 ?_
                    refine sw_getR X sw_cl5 (show sw_kd 0 = 5 from rfl) (k := 1) rfl (by decide) (o1 := 8) rfl wf_X5_14 dX5_count_129 ?_
                    obtain ⟨r15, c14, h⟩ := bo_E h
                    refine sw_callSI X (As := (fun g => [.ref (g.1 8)])) ws_X5_thoseThere (by omega) (c_X5_thoseThere F (show sw_kd 8 = 8 from rfl) st c14) rfl rfl (Nat.le_of_ble_eq_true rfl) wm_X5_333 dX5_count_132 ?_
                    exact sw_iret X hr hlk dX5_count_135 (by cases h; rfl)
                  · have h := ite_F h q13
                    by_cases q16 : a1 = 9
                    · have h := ite_T h q16
                      refine sw_tabIn X (k := 9) (off := 135) 136 q16 (by decide) (by decide) (by decide) (by decide) dX5_count_1 ?_
                      refine sw_aload_n X 0 rfl rfl dX5_count_136 ?_
                      refine sw_getR X sw_cl5 (show sw_kd 0 = 5 from rfl) (k := 3) rfl (by decide) (o1 := 14) rfl wf_X5_23 dX5_count_137 ?_
                      obtain ⟨r18, c17, h⟩ := bo_E h
                      refine sw_callSI X (As := (fun g => [.ref (g.1 14)])) ws_X5_thoseThere (by omega) (c_X5_thoseThere F (show sw_kd 14 = 8 from rfl) st c17) rfl rfl (Nat.le_of_ble_eq_true rfl) wm_X5_333 dX5_count_140 ?_
                      exact sw_iret X hr hlk dX5_count_143 (by cases h; rfl)
                    · have h := ite_F h q16
                      by_cases q19 : a1 = 10
                      · have h := ite_T h q19
                        refine sw_tabIn X (k := 10) (off := 143) 144 q19 (by decide) (by decide) (by decide) (by decide) dX5_count_1 ?_
                        refine sw_aload_n X 0 rfl rfl dX5_count_144 ?_
                        obtain ⟨r21, c20, h⟩ := bo_E h
                        refine sw_callVI X (o := 0) (As := (fun g => [])) sw_cl5 (show sw_kd 0 = 5 from rfl) ws_X5_thoseKept (by omega) (c_X5_thoseKept F st c20) rfl rfl (Nat.le_of_ble_eq_true rfl) wm_X5_337 dX5_count_145 ?_
                        exact sw_iret X hr hlk dX5_count_148 (by cases h; rfl)
                      · have h := ite_F h q19
                        have n0 := lv_neT q1 (show (0 : Int32).toInt = 0 by decide)
                        have n1 := lv_neT q2 (show (1 : Int32).toInt = 1 by decide)
                        have n2 := lv_neT q3 (show (2 : Int32).toInt = 2 by decide)
                        have n3 := lv_neT q4 (show (3 : Int32).toInt = 3 by decide)
                        have n4 := lv_neT q5 (show (4 : Int32).toInt = 4 by decide)
                        have n5 := lv_neT q6 (show (5 : Int32).toInt = 5 by decide)
                        have n6 := lv_neT q7 (show (6 : Int32).toInt = 6 by decide)
                        have n7 := lv_neT q8 (show (7 : Int32).toInt = 7 by decide)
                        have n8 := lv_neT q13 (show (8 : Int32).toInt = 8 by decide)
                        have n9 := lv_neT q16 (show (9 : Int32).toInt = 9 by decide)
                        have n10 := lv_neT q19 (show (10 : Int32).toInt = 10 by decide)
                        refine sw_tabOut X 149 (by omega) (by decide) dX5_count_1 ?_
                        refine sw_iconst X (v := (-1)) (by decide) dX5_count_149 ?_
                        exact sw_iret X hr hlk dX5_count_150 (by cases h; rfl)
theorem dX5_finding_0 : decode cX5_finding 0 = .ok (.aload_n 0, 1) := by decide +kernel
theorem dX5_finding_1 : decode cX5_finding 1 = .ok (.getfield 75, 3) := by decide +kernel
theorem dX5_finding_4 : decode cX5_finding 4 = .ok (.ireturn, 1) := by decide +kernel
def j_X5_finding (F : Nat) (st : sw_St) : Option Int32 :=
some (st.1 0 13 : Int32)
set_option maxHeartbeats 4000000 in
set_option maxRecDepth 100000 in
theorem c_X5_finding (F : Nat) (st : sw_St) {r : Int32} (h : j_X5_finding F  st = some r) : sw_CI yX5_finding (.code yX5_finding cX5_finding 1 (some .int)) 1 (fun g => [.ref (g.1 0)]) st r st := by
  refine sw_entI RX5 (fun g => [(0, .ref (g.1 0))]) (by decide) rfl (fun _ => Nat.le_of_ble_eq_true rfl) (fun _ => rfl) ?_
  intro p l e s m args below meth c g X hr hlk
  unfold j_X5_finding at h
  refine sw_aload_n X 0 rfl rfl dX5_finding_0 ?_
  refine sw_getI X sw_cl5 (show sw_kd 0 = 5 from rfl) (k := 13) rfl (by decide) wf_X5_75 dX5_finding_1 ?_
  exact sw_iret X hr hlk dX5_finding_4 (by cases h; rfl)
theorem dX5_findings_0 : decode cX5_findings 0 = .ok (.iload_n 1, 1) := by decide +kernel
theorem dX5_findings_1 : decode cX5_findings 1 = .ok (.iconst 1, 1) := by decide +kernel
theorem dX5_findings_2 : decode cX5_findings 2 = .ok (.if_icmp .lt 8, 3) := by decide +kernel
theorem dX5_findings_5 : decode cX5_findings 5 = .ok (.iload_n 1, 1) := by decide +kernel
theorem dX5_findings_6 : decode cX5_findings 6 = .ok (.iconst 5, 1) := by decide +kernel
theorem dX5_findings_7 : decode cX5_findings 7 = .ok (.if_icmp .le 5, 3) := by decide +kernel
theorem dX5_findings_10 : decode cX5_findings 10 = .ok (.iconst (-1), 1) := by decide +kernel
theorem dX5_findings_11 : decode cX5_findings 11 = .ok (.ireturn, 1) := by decide +kernel
theorem dX5_findings_12 : decode cX5_findings 12 = .ok (.aload_n 0, 1) := by decide +kernel
theorem dX5_findings_13 : decode cX5_findings 13 = .ok (.getfield 72, 3) := by decide +kernel
theorem dX5_findings_16 : decode cX5_findings 16 = .ok (.iload_n 1, 1) := by decide +kernel
theorem dX5_findings_17 : decode cX5_findings 17 = .ok (.iaload, 1) := by decide +kernel
theorem dX5_findings_18 : decode cX5_findings 18 = .ok (.ireturn, 1) := by decide +kernel
def j_X5_findings (F : Nat) (a1 : Int32) (st : sw_St) : Option Int32 :=
jn (
  some ((-1) : Int32)) (fun k1 =>
 (if a1 < 1 then (
  k1)
 else (
  (if a1 ≤ 5 then (
   bnd a1 6 (
   some (st.1 62 (a1 : Int32).toNatClampNeg : Int32)))
  else (
   k1)))))
set_option maxHeartbeats 4000000 in
set_option maxRecDepth 100000 in
theorem c_X5_findings (F : Nat) (a1 : Int32) (st : sw_St) {r : Int32} (h : j_X5_findings F a1 st = some r) : sw_CI yX5_findings (.code yX5_findings cX5_findings 2 (some .int)) 1 (fun g => [.ref (g.1 0), .int a1]) st r st := by
  refine sw_entI RX5 (fun g => [(0, .ref (g.1 0)), (1, .int a1)]) (by decide) rfl (fun _ => Nat.le_of_ble_eq_true rfl) (fun _ => rfl) ?_
  intro p l e s m args below meth c g X hr hlk
  unfold j_X5_findings at h
  refine sw_iload_n X 1 rfl rfl dX5_findings_0 ?_
  refine sw_iconst X (v := 1) (by decide) dX5_findings_1 ?_
  refine jn0_E (sw_V p l e 1 s m args below meth c g (sw_A g s.heap.size) (sw_QI below g args s r st) 2 10 [] [] st) h (fun h => ?_) (fun k1 J2 h => ?_)
  · refine sw_iconst X (v := (-1)) (by decide) dX5_findings_10 ?_
    exact sw_iret X hr hlk dX5_findings_11 (by cases h; rfl)
  · refine sw_icmp_lt X 10 (by decide) dX5_findings_2 (fun q3 => ?_) (fun q3 => ?_)
    · have h := ite_T h q3
      refine sw_sub [] rfl ?_
      exact J2  h
    · have h := ite_F h q3
      refine sw_iload_n X 1 rfl rfl dX5_findings_5 ?_
      refine sw_iconst X (v := 5) (by decide) dX5_findings_6 ?_
      refine sw_icmp_le X 12 (by decide) dX5_findings_7 (fun q4 => ?_) (fun q4 => ?_)
      · have h := ite_T h q4
        refine sw_aload_n X 0 rfl rfl dX5_findings_12 ?_
        refine sw_getR X sw_cl5 (show sw_kd 0 = 5 from rfl) (k := 12) rfl (by decide) (o1 := 62) rfl wf_X5_72 dX5_findings_13 ?_
        refine sw_iload_n X 1 rfl rfl dX5_findings_16 ?_
        obtain ⟨q5, h⟩ := bnd_E h
        refine sw_iald X (show sw_kd 62 = 8 from rfl) (n := 6) rfl q5 dX5_findings_17 ?_
        exact sw_iret X hr hlk dX5_findings_18 (by cases h; rfl)
      · have h := ite_F h q4
        refine sw_sub [] rfl ?_
        exact J2  h
theorem dX5_digest_0 : decode cX5_digest 0 = .ok (.ldc2_w 340, 3) := by decide +kernel
theorem dX5_digest_3 : decode cX5_digest 3 = .ok (.lstore_n 1, 1) := by decide +kernel
theorem dX5_digest_4 : decode cX5_digest 4 = .ok (.iconst 0, 1) := by decide +kernel
theorem dX5_digest_5 : decode cX5_digest 5 = .ok (.istore_n 3, 1) := by decide +kernel
theorem dX5_digest_6 : decode cX5_digest 6 = .ok (.iload_n 3, 1) := by decide +kernel
theorem dX5_digest_7 : decode cX5_digest 7 = .ok (.bipush 11, 2) := by decide +kernel
theorem dX5_digest_9 : decode cX5_digest 9 = .ok (.if_icmp .ge 22, 3) := by decide +kernel
theorem dX5_digest_12 : decode cX5_digest 12 = .ok (.ldc2_w 342, 3) := by decide +kernel
theorem dX5_digest_15 : decode cX5_digest 15 = .ok (.lload_n 1, 1) := by decide +kernel
theorem dX5_digest_16 : decode cX5_digest 16 = .ok (.lmul, 1) := by decide +kernel
theorem dX5_digest_17 : decode cX5_digest 17 = .ok (.aload_n 0, 1) := by decide +kernel
theorem dX5_digest_18 : decode cX5_digest 18 = .ok (.iload_n 3, 1) := by decide +kernel
theorem dX5_digest_19 : decode cX5_digest 19 = .ok (.invokevirtual 344, 3) := by decide +kernel
theorem dX5_digest_22 : decode cX5_digest 22 = .ok (.i2l, 1) := by decide +kernel
theorem dX5_digest_23 : decode cX5_digest 23 = .ok (.ladd, 1) := by decide +kernel
theorem dX5_digest_24 : decode cX5_digest 24 = .ok (.lstore_n 1, 1) := by decide +kernel
theorem dX5_digest_25 : decode cX5_digest 25 = .ok (.iinc 3 1, 3) := by decide +kernel
theorem dX5_digest_28 : decode cX5_digest 28 = .ok (.goto (-22), 3) := by decide +kernel
theorem dX5_digest_31 : decode cX5_digest 31 = .ok (.iconst 0, 1) := by decide +kernel
theorem dX5_digest_32 : decode cX5_digest 32 = .ok (.istore_n 3, 1) := by decide +kernel
theorem dX5_digest_33 : decode cX5_digest 33 = .ok (.iload_n 3, 1) := by decide +kernel
theorem dX5_digest_34 : decode cX5_digest 34 = .ok (.aload_n 0, 1) := by decide +kernel
theorem dX5_digest_35 : decode cX5_digest 35 = .ok (.getfield 29, 3) := by decide +kernel
theorem dX5_digest_38 : decode cX5_digest 38 = .ok (.getfield 134, 3) := by decide +kernel
theorem dX5_digest_41 : decode cX5_digest 41 = .ok (.if_icmp .ge 43, 3) := by decide +kernel
theorem dX5_digest_44 : decode cX5_digest 44 = .ok (.iconst 0, 1) := by decide +kernel
theorem dX5_digest_45 : decode cX5_digest 45 = .ok (.istore 4, 2) := by decide +kernel
theorem dX5_digest_47 : decode cX5_digest 47 = .ok (.iload 4, 2) := by decide +kernel
theorem dX5_digest_49 : decode cX5_digest 49 = .ok (.bipush 6, 2) := by decide +kernel
theorem dX5_digest_51 : decode cX5_digest 51 = .ok (.if_icmp .ge 27, 3) := by decide +kernel
theorem dX5_digest_54 : decode cX5_digest 54 = .ok (.ldc2_w 342, 3) := by decide +kernel
theorem dX5_digest_57 : decode cX5_digest 57 = .ok (.lload_n 1, 1) := by decide +kernel
theorem dX5_digest_58 : decode cX5_digest 58 = .ok (.lmul, 1) := by decide +kernel
theorem dX5_digest_59 : decode cX5_digest 59 = .ok (.aload_n 0, 1) := by decide +kernel
theorem dX5_digest_60 : decode cX5_digest 60 = .ok (.getfield 29, 3) := by decide +kernel
theorem dX5_digest_63 : decode cX5_digest 63 = .ok (.iload_n 3, 1) := by decide +kernel
theorem dX5_digest_64 : decode cX5_digest 64 = .ok (.iload 4, 2) := by decide +kernel
theorem dX5_digest_66 : decode cX5_digest 66 = .ok (.invokevirtual 140, 3) := by decide +kernel
theorem dX5_digest_69 : decode cX5_digest 69 = .ok (.i2l, 1) := by decide +kernel
theorem dX5_digest_70 : decode cX5_digest 70 = .ok (.ladd, 1) := by decide +kernel
theorem dX5_digest_71 : decode cX5_digest 71 = .ok (.lstore_n 1, 1) := by decide +kernel
theorem dX5_digest_72 : decode cX5_digest 72 = .ok (.iinc 4 1, 3) := by decide +kernel
theorem dX5_digest_75 : decode cX5_digest 75 = .ok (.goto (-28), 3) := by decide +kernel
theorem dX5_digest_78 : decode cX5_digest 78 = .ok (.iinc 3 1, 3) := by decide +kernel
theorem dX5_digest_81 : decode cX5_digest 81 = .ok (.goto (-48), 3) := by decide +kernel
theorem dX5_digest_84 : decode cX5_digest 84 = .ok (.iconst 0, 1) := by decide +kernel
theorem dX5_digest_85 : decode cX5_digest 85 = .ok (.istore_n 3, 1) := by decide +kernel
theorem dX5_digest_86 : decode cX5_digest 86 = .ok (.iload_n 3, 1) := by decide +kernel
theorem dX5_digest_87 : decode cX5_digest 87 = .ok (.iconst 3, 1) := by decide +kernel
theorem dX5_digest_88 : decode cX5_digest 88 = .ok (.if_icmp .ge 39, 3) := by decide +kernel
theorem dX5_digest_91 : decode cX5_digest 91 = .ok (.ldc2_w 342, 3) := by decide +kernel
theorem dX5_digest_94 : decode cX5_digest 94 = .ok (.lload_n 1, 1) := by decide +kernel
theorem dX5_digest_95 : decode cX5_digest 95 = .ok (.lmul, 1) := by decide +kernel
theorem dX5_digest_96 : decode cX5_digest 96 = .ok (.aload_n 0, 1) := by decide +kernel
theorem dX5_digest_97 : decode cX5_digest 97 = .ok (.getfield 40, 3) := by decide +kernel
theorem dX5_digest_100 : decode cX5_digest 100 = .ok (.iload_n 3, 1) := by decide +kernel
theorem dX5_digest_101 : decode cX5_digest 101 = .ok (.baload, 1) := by decide +kernel
theorem dX5_digest_102 : decode cX5_digest 102 = .ok (.ifCond .eq 15, 3) := by decide +kernel
theorem dX5_digest_105 : decode cX5_digest 105 = .ok (.aload_n 0, 1) := by decide +kernel
theorem dX5_digest_106 : decode cX5_digest 106 = .ok (.getfield 36, 3) := by decide +kernel
theorem dX5_digest_109 : decode cX5_digest 109 = .ok (.iload_n 3, 1) := by decide +kernel
theorem dX5_digest_110 : decode cX5_digest 110 = .ok (.aaload, 1) := by decide +kernel
theorem dX5_digest_111 : decode cX5_digest 111 = .ok (.getfield 150, 3) := by decide +kernel
theorem dX5_digest_114 : decode cX5_digest 114 = .ok (.goto 4, 3) := by decide +kernel
theorem dX5_digest_117 : decode cX5_digest 117 = .ok (.iconst (-1), 1) := by decide +kernel
theorem dX5_digest_118 : decode cX5_digest 118 = .ok (.i2l, 1) := by decide +kernel
theorem dX5_digest_119 : decode cX5_digest 119 = .ok (.ladd, 1) := by decide +kernel
theorem dX5_digest_120 : decode cX5_digest 120 = .ok (.lstore_n 1, 1) := by decide +kernel
theorem dX5_digest_121 : decode cX5_digest 121 = .ok (.iinc 3 1, 3) := by decide +kernel
theorem dX5_digest_124 : decode cX5_digest 124 = .ok (.goto (-38), 3) := by decide +kernel
theorem dX5_digest_127 : decode cX5_digest 127 = .ok (.iconst 0, 1) := by decide +kernel
theorem dX5_digest_128 : decode cX5_digest 128 = .ok (.istore_n 3, 1) := by decide +kernel
theorem dX5_digest_129 : decode cX5_digest 129 = .ok (.iload_n 3, 1) := by decide +kernel
theorem dX5_digest_130 : decode cX5_digest 130 = .ok (.bipush 6, 2) := by decide +kernel
theorem dX5_digest_132 : decode cX5_digest 132 = .ok (.if_icmp .ge 60, 3) := by decide +kernel
theorem dX5_digest_135 : decode cX5_digest 135 = .ok (.ldc2_w 342, 3) := by decide +kernel
theorem dX5_digest_138 : decode cX5_digest 138 = .ok (.lload_n 1, 1) := by decide +kernel
theorem dX5_digest_139 : decode cX5_digest 139 = .ok (.lmul, 1) := by decide +kernel
theorem dX5_digest_140 : decode cX5_digest 140 = .ok (.aload_n 0, 1) := by decide +kernel
theorem dX5_digest_141 : decode cX5_digest 141 = .ok (.getfield 14, 3) := by decide +kernel
theorem dX5_digest_144 : decode cX5_digest 144 = .ok (.iload_n 3, 1) := by decide +kernel
theorem dX5_digest_145 : decode cX5_digest 145 = .ok (.iaload, 1) := by decide +kernel
theorem dX5_digest_146 : decode cX5_digest 146 = .ok (.i2l, 1) := by decide +kernel
theorem dX5_digest_147 : decode cX5_digest 147 = .ok (.ladd, 1) := by decide +kernel
theorem dX5_digest_148 : decode cX5_digest 148 = .ok (.lstore_n 1, 1) := by decide +kernel
theorem dX5_digest_149 : decode cX5_digest 149 = .ok (.iconst 0, 1) := by decide +kernel
theorem dX5_digest_150 : decode cX5_digest 150 = .ok (.istore 4, 2) := by decide +kernel
theorem dX5_digest_152 : decode cX5_digest 152 = .ok (.iload 4, 2) := by decide +kernel
theorem dX5_digest_154 : decode cX5_digest 154 = .ok (.aload_n 0, 1) := by decide +kernel
theorem dX5_digest_155 : decode cX5_digest 155 = .ok (.getfield 14, 3) := by decide +kernel
theorem dX5_digest_158 : decode cX5_digest 158 = .ok (.iload_n 3, 1) := by decide +kernel
theorem dX5_digest_159 : decode cX5_digest 159 = .ok (.iaload, 1) := by decide +kernel
theorem dX5_digest_160 : decode cX5_digest 160 = .ok (.if_icmp .ge 26, 3) := by decide +kernel
theorem dX5_digest_163 : decode cX5_digest 163 = .ok (.ldc2_w 342, 3) := by decide +kernel
theorem dX5_digest_166 : decode cX5_digest 166 = .ok (.lload_n 1, 1) := by decide +kernel
theorem dX5_digest_167 : decode cX5_digest 167 = .ok (.lmul, 1) := by decide +kernel
theorem dX5_digest_168 : decode cX5_digest 168 = .ok (.aload_n 0, 1) := by decide +kernel
theorem dX5_digest_169 : decode cX5_digest 169 = .ok (.getfield 11, 3) := by decide +kernel
theorem dX5_digest_172 : decode cX5_digest 172 = .ok (.iload_n 3, 1) := by decide +kernel
theorem dX5_digest_173 : decode cX5_digest 173 = .ok (.aaload, 1) := by decide +kernel
theorem dX5_digest_174 : decode cX5_digest 174 = .ok (.iload 4, 2) := by decide +kernel
theorem dX5_digest_176 : decode cX5_digest 176 = .ok (.iaload, 1) := by decide +kernel
theorem dX5_digest_177 : decode cX5_digest 177 = .ok (.i2l, 1) := by decide +kernel
theorem dX5_digest_178 : decode cX5_digest 178 = .ok (.ladd, 1) := by decide +kernel
theorem dX5_digest_179 : decode cX5_digest 179 = .ok (.lstore_n 1, 1) := by decide +kernel
theorem dX5_digest_180 : decode cX5_digest 180 = .ok (.iinc 4 1, 3) := by decide +kernel
theorem dX5_digest_183 : decode cX5_digest 183 = .ok (.goto (-31), 3) := by decide +kernel
theorem dX5_digest_186 : decode cX5_digest 186 = .ok (.iinc 3 1, 3) := by decide +kernel
theorem dX5_digest_189 : decode cX5_digest 189 = .ok (.goto (-60), 3) := by decide +kernel
theorem dX5_digest_192 : decode cX5_digest 192 = .ok (.iconst 0, 1) := by decide +kernel
theorem dX5_digest_193 : decode cX5_digest 193 = .ok (.istore_n 3, 1) := by decide +kernel
theorem dX5_digest_194 : decode cX5_digest 194 = .ok (.iload_n 3, 1) := by decide +kernel
theorem dX5_digest_195 : decode cX5_digest 195 = .ok (.iconst 4, 1) := by decide +kernel
theorem dX5_digest_196 : decode cX5_digest 196 = .ok (.if_icmp .ge 60, 3) := by decide +kernel
theorem dX5_digest_199 : decode cX5_digest 199 = .ok (.ldc2_w 342, 3) := by decide +kernel
theorem dX5_digest_202 : decode cX5_digest 202 = .ok (.lload_n 1, 1) := by decide +kernel
theorem dX5_digest_203 : decode cX5_digest 203 = .ok (.lmul, 1) := by decide +kernel
theorem dX5_digest_204 : decode cX5_digest 204 = .ok (.aload_n 0, 1) := by decide +kernel
theorem dX5_digest_205 : decode cX5_digest 205 = .ok (.getfield 23, 3) := by decide +kernel
theorem dX5_digest_208 : decode cX5_digest 208 = .ok (.iload_n 3, 1) := by decide +kernel
theorem dX5_digest_209 : decode cX5_digest 209 = .ok (.iaload, 1) := by decide +kernel
theorem dX5_digest_210 : decode cX5_digest 210 = .ok (.i2l, 1) := by decide +kernel
theorem dX5_digest_211 : decode cX5_digest 211 = .ok (.ladd, 1) := by decide +kernel
theorem dX5_digest_212 : decode cX5_digest 212 = .ok (.lstore_n 1, 1) := by decide +kernel
theorem dX5_digest_213 : decode cX5_digest 213 = .ok (.iconst 0, 1) := by decide +kernel
theorem dX5_digest_214 : decode cX5_digest 214 = .ok (.istore 4, 2) := by decide +kernel
theorem dX5_digest_216 : decode cX5_digest 216 = .ok (.iload 4, 2) := by decide +kernel
theorem dX5_digest_218 : decode cX5_digest 218 = .ok (.aload_n 0, 1) := by decide +kernel
theorem dX5_digest_219 : decode cX5_digest 219 = .ok (.getfield 23, 3) := by decide +kernel
theorem dX5_digest_222 : decode cX5_digest 222 = .ok (.iload_n 3, 1) := by decide +kernel
theorem dX5_digest_223 : decode cX5_digest 223 = .ok (.iaload, 1) := by decide +kernel
theorem dX5_digest_224 : decode cX5_digest 224 = .ok (.if_icmp .ge 26, 3) := by decide +kernel
theorem dX5_digest_227 : decode cX5_digest 227 = .ok (.ldc2_w 342, 3) := by decide +kernel
theorem dX5_digest_230 : decode cX5_digest 230 = .ok (.lload_n 1, 1) := by decide +kernel
theorem dX5_digest_231 : decode cX5_digest 231 = .ok (.lmul, 1) := by decide +kernel
theorem dX5_digest_232 : decode cX5_digest 232 = .ok (.aload_n 0, 1) := by decide +kernel
theorem dX5_digest_233 : decode cX5_digest 233 = .ok (.getfield 20, 3) := by decide +kernel
theorem dX5_digest_236 : decode cX5_digest 236 = .ok (.iload_n 3, 1) := by decide +kernel
theorem dX5_digest_237 : decode cX5_digest 237 = .ok (.aaload, 1) := by decide +kernel
theorem dX5_digest_238 : decode cX5_digest 238 = .ok (.iload 4, 2) := by decide +kernel
theorem dX5_digest_240 : decode cX5_digest 240 = .ok (.baload, 1) := by decide +kernel
theorem dX5_digest_241 : decode cX5_digest 241 = .ok (.i2l, 1) := by decide +kernel
theorem dX5_digest_242 : decode cX5_digest 242 = .ok (.ladd, 1) := by decide +kernel
theorem dX5_digest_243 : decode cX5_digest 243 = .ok (.lstore_n 1, 1) := by decide +kernel
theorem dX5_digest_244 : decode cX5_digest 244 = .ok (.iinc 4 1, 3) := by decide +kernel
theorem dX5_digest_247 : decode cX5_digest 247 = .ok (.goto (-31), 3) := by decide +kernel
theorem dX5_digest_250 : decode cX5_digest 250 = .ok (.iinc 3 1, 3) := by decide +kernel
theorem dX5_digest_253 : decode cX5_digest 253 = .ok (.goto (-59), 3) := by decide +kernel
theorem dX5_digest_256 : decode cX5_digest 256 = .ok (.lload_n 1, 1) := by decide +kernel
theorem dX5_digest_257 : decode cX5_digest 257 = .ok (.lreturn, 1) := by decide +kernel
def j_X5_digest (F : Nat) (st : sw_St) : Option Int64 :=
lz2 (fun f3 (x1 : Int64) (x2 : Int32) =>
 (if 11 ≤ x2 then (
  lz2 (fun f8 (x6 : Int64) (x7 : Int32) =>
   (if (st.1 15 0) ≤ x7 then (
    lz2 (fun f13 (x11 : Int64) (x12 : Int32) =>
     (if 3 ≤ x12 then (
      lz2 (fun f18 (x16 : Int64) (x17 : Int32) =>
       (if 6 ≤ x17 then (
        lz2 (fun f23 (x21 : Int64) (x22 : Int32) =>
         (if 4 ≤ x22 then (
          some (x21 : Int64))
         else (
          bnd x22 4 (
          nm ((31 * x21) + (((st.1 14 (x22 : Int32).toNatClampNeg) : Int32).toInt64)) (fun (x27 : Int64) =>
          lz2 (fun f30 (x28 : Int64) (x29 : Int32) =>
           bnd x22 4 (
           (if (st.1 14 (x22 : Int32).toNatClampNeg) ≤ x29 then (
            nm (x22 + 1) (fun (x34 : Int32) =>
            f23 x28 x34))
           else (
            bnd x22 4 (
            bnd x29 60 (
            nm ((31 * x28) + (((st.1 (10 + (x22 : Int32).toNatClampNeg) (x29 : Int32).toNatClampNeg) : Int32).toInt64)) (fun (x37 : Int64) =>
            nm (x29 + 1) (fun (x38 : Int32) =>
            f30 x37 x38)))))))) F x27 0))))) F x16 0)
       else (
        bnd x17 6 (
        nm ((31 * x16) + (((st.1 8 (x17 : Int32).toNatClampNeg) : Int32).toInt64)) (fun (x40 : Int64) =>
        lz2 (fun f43 (x41 : Int64) (x42 : Int32) =>
         bnd x17 6 (
         (if (st.1 8 (x17 : Int32).toNatClampNeg) ≤ x42 then (
          nm (x17 + 1) (fun (x47 : Int32) =>
          f18 x41 x47))
         else (
          bnd x17 6 (
          bnd x42 40 (
          nm ((31 * x41) + (((st.1 (2 + (x17 : Int32).toNatClampNeg) (x42 : Int32).toNatClampNeg) : Int32).toInt64)) (fun (x50 : Int64) =>
          nm (x42 + 1) (fun (x51 : Int32) =>
          f43 x50 x51)))))))) F x40 0))))) F x11 0)
     else (
      bnd x12 3 (
      jn (fun (x53 : Int32) => 
        nm ((31 * x11) + ((x53 : Int32).toInt64)) (fun (x56 : Int64) =>
        nm (x12 + 1) (fun (x57 : Int32) =>
        f13 x56 x57))) (fun k54 =>
       (if (st.1 51 (x12 : Int32).toNatClampNeg) = 0 then (
        k54 (-1))
       else (
        bnd x12 3 (
        k54 (st.1 (30 + 7 * (x12 : Int32).toNatClampNeg) 14))))))))) F x6 0)
   else (
    lz2 (fun f62 (x60 : Int64) (x61 : Int32) =>
     (if 6 ≤ x61 then (
      nm (x7 + 1) (fun (x65 : Int32) =>
      f8 x60 x65))
     else (
      bo (j_X4_trait F 15 x7 x61 st) (fun (r67 : Int32) =>
      nm ((31 * x60) + ((r67 : Int32).toInt64)) (fun (x68 : Int64) =>
      nm (x61 + 1) (fun (x69 : Int32) =>
      f62 x68 x69)))))) F x6 0))) F x1 0)
 else (
  bo (j_X5_count F x2 st) (fun (r71 : Int32) =>
  nm ((31 * x1) + ((r71 : Int32).toInt64)) (fun (x72 : Int64) =>
  nm (x2 + 1) (fun (x73 : Int32) =>
  f3 x72 x73)))))) F 17 0
set_option maxHeartbeats 4000000 in
set_option maxRecDepth 100000 in
theorem c_X5_digest (F : Nat) (st : sw_St) {r : Int64} (h : j_X5_digest F  st = some r) : sw_CL yX5_digest (.code yX5_digest cX5_digest 5 (some .long)) 5 (fun g => [.ref (g.1 0)]) st r st := by
  refine sw_entL RX5 (fun g => [(0, .ref (g.1 0))]) (by decide) rfl (fun _ => Nat.le_of_ble_eq_true rfl) (fun _ => rfl) ?_
  intro p l e s m args below meth c g X hr hlk
  unfold j_X5_digest at h
  refine sw_ldc2 X (v := 17) wl_X5_340 dX5_digest_0 ?_
  refine sw_lstore_n X [(1, .long 17), (0, .ref (g.1 0))] rfl (by decide) rfl dX5_digest_3 ?_
  refine sw_iconst X (v := 0) (by decide) dX5_digest_4 ?_
  refine sw_istore_n X [(3, .int 0), (1, .long 17), (0, .ref (g.1 0))] rfl (by decide) rfl dX5_digest_5 ?_
  refine sw_sub [2, 1, 0] rfl ?_
  refine lz2_E (fun (x1 : Int64) (x2 : Int32) => sw_V p l e 5 s m args below meth c g (sw_A g s.heap.size) (sw_QL below g args s r st) 5 6 [(0, .ref (g.1 0)), (1, .long x1), (3, .int x2)] [] st) h (fun f3 ih4 x1 x2 h => ?_)
  refine sw_iload_n X 2 rfl rfl dX5_digest_6 ?_
  refine sw_bipush X (v := 11) (by decide) dX5_digest_7 ?_
  refine sw_icmp_ge X 31 (by decide) dX5_digest_9 (fun q5 => ?_) (fun q5 => ?_)
  · have h := ite_T h q5
    refine sw_iconst X (v := 0) (by decide) dX5_digest_31 ?_
    refine sw_istore_n X [(3, .int 0), (0, .ref (g.1 0)), (1, .long x1)] rfl (by decide) rfl dX5_digest_32 ?_
    refine sw_sub [1, 2, 0] rfl ?_
    refine lz2_E (fun (x6 : Int64) (x7 : Int32) => sw_V p l e 5 s m args below meth c g (sw_A g s.heap.size) (sw_QL below g args s r st) 5 33 [(0, .ref (g.1 0)), (1, .long x6), (3, .int x7)] [] st) h (fun f8 ih9 x6 x7 h => ?_)
    refine sw_iload_n X 2 rfl rfl dX5_digest_33 ?_
    refine sw_aload_n X 0 rfl rfl dX5_digest_34 ?_
    refine sw_getR X sw_cl5 (show sw_kd 0 = 5 from rfl) (k := 4) rfl (by decide) (o1 := 15) rfl wf_X5_29 dX5_digest_35 ?_
    refine sw_getI X sw_cl4 (show sw_kd 15 = 4 from rfl) (k := 0) rfl (by decide) wf_X5_134 dX5_digest_38 ?_
    refine sw_icmp_ge X 84 (by decide) dX5_digest_41 (fun q10 => ?_) (fun q10 => ?_)
    · have h := ite_T h q10
      refine sw_iconst X (v := 0) (by decide) dX5_digest_84 ?_
      refine sw_istore_n X [(3, .int 0), (0, .ref (g.1 0)), (1, .long x6)] rfl (by decide) rfl dX5_digest_85 ?_
      refine sw_sub [1, 2, 0] rfl ?_
      refine lz2_E (fun (x11 : Int64) (x12 : Int32) => sw_V p l e 5 s m args below meth c g (sw_A g s.heap.size) (sw_QL below g args s r st) 5 86 [(0, .ref (g.1 0)), (1, .long x11), (3, .int x12)] [] st) h (fun f13 ih14 x11 x12 h => ?_)
      refine sw_iload_n X 2 rfl rfl dX5_digest_86 ?_
      refine sw_iconst X (v := 3) (by decide) dX5_digest_87 ?_
      refine sw_icmp_ge X 127 (by decide) dX5_digest_88 (fun q15 => ?_) (fun q15 => ?_)
      · have h := ite_T h q15
        refine sw_iconst X (v := 0) (by decide) dX5_digest_127 ?_
        refine sw_istore_n X [(3, .int 0), (0, .ref (g.1 0)), (1, .long x11)] rfl (by decide) rfl dX5_digest_128 ?_
        refine sw_sub [1, 2, 0] rfl ?_
        refine lz2_E (fun (x16 : Int64) (x17 : Int32) => sw_V p l e 5 s m args below meth c g (sw_A g s.heap.size) (sw_QL below g args s r st) 5 129 [(0, .ref (g.1 0)), (1, .long x16), (3, .int x17)] [] st) h (fun f18 ih19 x16 x17 h => ?_)
        refine sw_iload_n X 2 rfl rfl dX5_digest_129 ?_
        refine sw_bipush X (v := 6) (by decide) dX5_digest_130 ?_
        refine sw_icmp_ge X 192 (by decide) dX5_digest_132 (fun q20 => ?_) (fun q20 => ?_)
        · have h := ite_T h q20
          refine sw_iconst X (v := 0) (by decide) dX5_digest_192 ?_
          refine sw_istore_n X [(3, .int 0), (0, .ref (g.1 0)), (1, .long x16)] rfl (by decide) rfl dX5_digest_193 ?_
          refine sw_sub [1, 2, 0] rfl ?_
          refine lz2_E (fun (x21 : Int64) (x22 : Int32) => sw_V p l e 5 s m args below meth c g (sw_A g s.heap.size) (sw_QL below g args s r st) 5 194 [(0, .ref (g.1 0)), (1, .long x21), (3, .int x22)] [] st) h (fun f23 ih24 x21 x22 h => ?_)
          refine sw_iload_n X 2 rfl rfl dX5_digest_194 ?_
          refine sw_iconst X (v := 4) (by decide) dX5_digest_195 ?_
          refine sw_icmp_ge X 256 (by decide) dX5_digest_196 (fun q25 => ?_) (fun q25 => ?_)
          · have h := ite_T h q25
            refine sw_lload_n X 1 rfl rfl dX5_digest_256 ?_
            exact sw_lret X hr hlk dX5_digest_257 (by cases h; rfl)
          · have h := ite_F h q25
            refine sw_ldc2 X (v := 31) wl_X5_342 dX5_digest_199 ?_
            refine sw_lload_n X 1 rfl rfl dX5_digest_202 ?_
            refine sw_lmul X dX5_digest_203 ?_
            refine sw_aload_n X 0 rfl rfl dX5_digest_204 ?_
            refine sw_getR X sw_cl5 (show sw_kd 0 = 5 from rfl) (k := 3) rfl (by decide) (o1 := 14) rfl wf_X5_23 dX5_digest_205 ?_
            refine sw_iload_n X 2 rfl rfl dX5_digest_208 ?_
            obtain ⟨q26, h⟩ := bnd_E h
            refine sw_iald X (show sw_kd 14 = 8 from rfl) (n := 4) rfl q26 dX5_digest_209 ?_
            refine sw_i2l X dX5_digest_210 ?_
            refine sw_ladd X dX5_digest_211 ?_
            refine sw_topl (fun x27 ex27 => ?_)
            have h := nm_E h ex27
            refine sw_lstore_n X [(1, .long x27), (0, .ref (g.1 0)), (3, .int x22)] rfl (by decide) rfl dX5_digest_212 ?_
            refine sw_iconst X (v := 0) (by decide) dX5_digest_213 ?_
            refine sw_istore X [(4, .int 0), (1, .long x27), (0, .ref (g.1 0)), (3, .int x22)] (by decide) rfl dX5_digest_214 ?_
            refine sw_sub [2, 1, 3, 0] rfl ?_
            refine lz2_E (fun (x28 : Int64) (x29 : Int32) => sw_V p l e 5 s m args below meth c g (sw_A g s.heap.size) (sw_QL below g args s r st) 5 216 [(0, .ref (g.1 0)), (1, .long x28), (3, .int x22), (4, .int x29)] [] st) h (fun f30 ih31 x28 x29 h => ?_)
            refine sw_iload X 3 rfl dX5_digest_216 ?_
            refine sw_aload_n X 0 rfl rfl dX5_digest_218 ?_
            refine sw_getR X sw_cl5 (show sw_kd 0 = 5 from rfl) (k := 3) rfl (by decide) (o1 := 14) rfl wf_X5_23 dX5_digest_219 ?_
            refine sw_iload_n X 2 rfl rfl dX5_digest_222 ?_
            obtain ⟨q32, h⟩ := bnd_E h
            refine sw_iald X (show sw_kd 14 = 8 from rfl) (n := 4) rfl q32 dX5_digest_223 ?_
            refine sw_icmp_ge X 250 (by decide) dX5_digest_224 (fun q33 => ?_) (fun q33 => ?_)
            · have h := ite_T h q33
              obtain ⟨x34, ex34⟩ : ∃ y : Int32, y = x22 + 1 := ⟨_, rfl⟩
              have h := nm_E h ex34
              refine sw_iinc X 2 x34 [(3, .int x34), (0, .ref (g.1 0)), (1, .long x28), (4, .int x29)] rfl (by rw [ex34]; rfl) (by decide) rfl dX5_digest_250 ?_
              refine sw_goto X 194 (by decide) dX5_digest_253 ?_
              refine sw_sub [1, 2, 0] rfl ?_
              exact ih24 _ _ h
            · have h := ite_F h q33
              refine sw_ldc2 X (v := 31) wl_X5_342 dX5_digest_227 ?_
              refine sw_lload_n X 1 rfl rfl dX5_digest_230 ?_
              refine sw_lmul X dX5_digest_231 ?_
              refine sw_aload_n X 0 rfl rfl dX5_digest_232 ?_
              refine sw_getR X sw_cl5 (show sw_kd 0 = 5 from rfl) (k := 2) rfl (by decide) (o1 := 9) rfl wf_X5_20 dX5_digest_233 ?_
              refine sw_iload_n X 2 rfl rfl dX5_digest_236 ?_
              obtain ⟨q35, h⟩ := bnd_E h
              refine sw_aaldB X (show sw_kd 9 = 11 from rfl) (n := 4) rfl q35 (a1 := 10 + (x22 : Int32).toNatClampNeg) rfl dX5_digest_237 ?_
              refine sw_iload X 3 rfl dX5_digest_238 ?_
              obtain ⟨q36, h⟩ := bnd_E h
              refine sw_bald X (show sw_kd (10 + (x22 : Int32).toNatClampNeg) = 7 from (sw_xk q35)) (n := 60) (sw_xn q35) q36 dX5_digest_240 ?_
              refine sw_i2l X dX5_digest_241 ?_
              refine sw_ladd X dX5_digest_242 ?_
              refine sw_topl (fun x37 ex37 => ?_)
              have h := nm_E h ex37
              refine sw_lstore_n X [(1, .long x37), (0, .ref (g.1 0)), (3, .int x22), (4, .int x29)] rfl (by decide) rfl dX5_digest_243 ?_
              obtain ⟨x38, ex38⟩ : ∃ y : Int32, y = x29 + 1 := ⟨_, rfl⟩
              have h := nm_E h ex38
              refine sw_iinc X 3 x38 [(4, .int x38), (1, .long x37), (0, .ref (g.1 0)), (3, .int x22)] rfl (by rw [ex38]; rfl) (by decide) rfl dX5_digest_244 ?_
              refine sw_goto X 216 (by decide) dX5_digest_247 ?_
              refine sw_sub [2, 1, 3, 0] rfl ?_
              exact ih31 _ _ h
        · have h := ite_F h q20
          refine sw_ldc2 X (v := 31) wl_X5_342 dX5_digest_135 ?_
          refine sw_lload_n X 1 rfl rfl dX5_digest_138 ?_
          refine sw_lmul X dX5_digest_139 ?_
          refine sw_aload_n X 0 rfl rfl dX5_digest_140 ?_
          refine sw_getR X sw_cl5 (show sw_kd 0 = 5 from rfl) (k := 1) rfl (by decide) (o1 := 8) rfl wf_X5_14 dX5_digest_141 ?_
          refine sw_iload_n X 2 rfl rfl dX5_digest_144 ?_
          obtain ⟨q39, h⟩ := bnd_E h
          refine sw_iald X (show sw_kd 8 = 8 from rfl) (n := 6) rfl q39 dX5_digest_145 ?_
          refine sw_i2l X dX5_digest_146 ?_
          refine sw_ladd X dX5_digest_147 ?_
          refine sw_topl (fun x40 ex40 => ?_)
          have h := nm_E h ex40
          refine sw_lstore_n X [(1, .long x40), (0, .ref (g.1 0)), (3, .int x17)] rfl (by decide) rfl dX5_digest_148 ?_
          refine sw_iconst X (v := 0) (by decide) dX5_digest_149 ?_
          refine sw_istore X [(4, .int 0), (1, .long x40), (0, .ref (g.1 0)), (3, .int x17)] (by decide) rfl dX5_digest_150 ?_
          refine sw_sub [2, 1, 3, 0] rfl ?_
          refine lz2_E (fun (x41 : Int64) (x42 : Int32) => sw_V p l e 5 s m args below meth c g (sw_A g s.heap.size) (sw_QL below g args s r st) 5 152 [(0, .ref (g.1 0)), (1, .long x41), (3, .int x17), (4, .int x42)] [] st) h (fun f43 ih44 x41 x42 h => ?_)
          refine sw_iload X 3 rfl dX5_digest_152 ?_
          refine sw_aload_n X 0 rfl rfl dX5_digest_154 ?_
          refine sw_getR X sw_cl5 (show sw_kd 0 = 5 from rfl) (k := 1) rfl (by decide) (o1 := 8) rfl wf_X5_14 dX5_digest_155 ?_
          refine sw_iload_n X 2 rfl rfl dX5_digest_158 ?_
          obtain ⟨q45, h⟩ := bnd_E h
          refine sw_iald X (show sw_kd 8 = 8 from rfl) (n := 6) rfl q45 dX5_digest_159 ?_
          refine sw_icmp_ge X 186 (by decide) dX5_digest_160 (fun q46 => ?_) (fun q46 => ?_)
          · have h := ite_T h q46
            obtain ⟨x47, ex47⟩ : ∃ y : Int32, y = x17 + 1 := ⟨_, rfl⟩
            have h := nm_E h ex47
            refine sw_iinc X 2 x47 [(3, .int x47), (0, .ref (g.1 0)), (1, .long x41), (4, .int x42)] rfl (by rw [ex47]; rfl) (by decide) rfl dX5_digest_186 ?_
            refine sw_goto X 129 (by decide) dX5_digest_189 ?_
            refine sw_sub [1, 2, 0] rfl ?_
            exact ih19 _ _ h
          · have h := ite_F h q46
            refine sw_ldc2 X (v := 31) wl_X5_342 dX5_digest_163 ?_
            refine sw_lload_n X 1 rfl rfl dX5_digest_166 ?_
            refine sw_lmul X dX5_digest_167 ?_
            refine sw_aload_n X 0 rfl rfl dX5_digest_168 ?_
            refine sw_getR X sw_cl5 (show sw_kd 0 = 5 from rfl) (k := 0) rfl (by decide) (o1 := 1) rfl wf_X5_11 dX5_digest_169 ?_
            refine sw_iload_n X 2 rfl rfl dX5_digest_172 ?_
            obtain ⟨q48, h⟩ := bnd_E h
            refine sw_aaldI X (show sw_kd 1 = 12 from rfl) (n := 6) rfl q48 (a1 := 2 + (x17 : Int32).toNatClampNeg) rfl dX5_digest_173 ?_
            refine sw_iload X 3 rfl dX5_digest_174 ?_
            obtain ⟨q49, h⟩ := bnd_E h
            refine sw_iald X (show sw_kd (2 + (x17 : Int32).toNatClampNeg) = 8 from (sw_rk q48)) (n := 40) (sw_rn q48) q49 dX5_digest_176 ?_
            refine sw_i2l X dX5_digest_177 ?_
            refine sw_ladd X dX5_digest_178 ?_
            refine sw_topl (fun x50 ex50 => ?_)
            have h := nm_E h ex50
            refine sw_lstore_n X [(1, .long x50), (0, .ref (g.1 0)), (3, .int x17), (4, .int x42)] rfl (by decide) rfl dX5_digest_179 ?_
            obtain ⟨x51, ex51⟩ : ∃ y : Int32, y = x42 + 1 := ⟨_, rfl⟩
            have h := nm_E h ex51
            refine sw_iinc X 3 x51 [(4, .int x51), (1, .long x50), (0, .ref (g.1 0)), (3, .int x17)] rfl (by rw [ex51]; rfl) (by decide) rfl dX5_digest_180 ?_
            refine sw_goto X 152 (by decide) dX5_digest_183 ?_
            refine sw_sub [2, 1, 3, 0] rfl ?_
            exact ih44 _ _ h
      · have h := ite_F h q15
        refine sw_ldc2 X (v := 31) wl_X5_342 dX5_digest_91 ?_
        refine sw_lload_n X 1 rfl rfl dX5_digest_94 ?_
        refine sw_lmul X dX5_digest_95 ?_
        refine sw_aload_n X 0 rfl rfl dX5_digest_96 ?_
        refine sw_getR X sw_cl5 (show sw_kd 0 = 5 from rfl) (k := 7) rfl (by decide) (o1 := 51) rfl wf_X5_40 dX5_digest_97 ?_
        refine sw_iload_n X 2 rfl rfl dX5_digest_100 ?_
        obtain ⟨q52, h⟩ := bnd_E h
        refine sw_zald X (show sw_kd 51 = 9 from rfl) (n := 3) rfl q52 dX5_digest_101 ?_
        refine jn1_E (fun (x53 : Int32) => sw_V p l e 5 s m args below meth c g (sw_A g s.heap.size) (sw_QL below g args s r st) 5 118 [(0, .ref (g.1 0)), (3, .int x12)] [.int x53, .long (31 * x11)] st) h (fun x53 h => ?_) (fun k54 J55 h => ?_)
        · refine sw_i2l X dX5_digest_118 ?_
          refine sw_ladd X dX5_digest_119 ?_
          refine sw_topl (fun x56 ex56 => ?_)
          have h := nm_E h ex56
          refine sw_lstore_n X [(1, .long x56), (0, .ref (g.1 0)), (3, .int x12)] rfl (by decide) rfl dX5_digest_120 ?_
          obtain ⟨x57, ex57⟩ : ∃ y : Int32, y = x12 + 1 := ⟨_, rfl⟩
          have h := nm_E h ex57
          refine sw_iinc X 2 x57 [(3, .int x57), (1, .long x56), (0, .ref (g.1 0))] rfl (by rw [ex57]; rfl) (by decide) rfl dX5_digest_121 ?_
          refine sw_goto X 86 (by decide) dX5_digest_124 ?_
          refine sw_sub [2, 1, 0] rfl ?_
          exact ih14 _ _ h
        · refine sw_if_eq X 117 (by decide) dX5_digest_102 (fun q58 => ?_) (fun q58 => ?_)
          · have h := ite_T h q58
            refine sw_iconst X (v := (-1)) (by decide) dX5_digest_117 ?_
            refine sw_sub [0, 2] rfl ?_
            exact J55 _ h
          · have h := ite_F h q58
            refine sw_aload_n X 0 rfl rfl dX5_digest_105 ?_
            refine sw_getR X sw_cl5 (show sw_kd 0 = 5 from rfl) (k := 6) rfl (by decide) (o1 := 29) rfl wf_X5_36 dX5_digest_106 ?_
            refine sw_iload_n X 2 rfl rfl dX5_digest_109 ?_
            obtain ⟨q59, h⟩ := bnd_E h
            refine sw_aaldT X (show sw_kd 29 = 10 from rfl) (n := 3) rfl q59 (a1 := 30 + 7 * (x12 : Int32).toNatClampNeg) rfl dX5_digest_110 ?_
            refine sw_getI X sw_cl4 (show sw_kd (30 + 7 * (x12 : Int32).toNatClampNeg) = 4 from (sw_kk q59)) (k := 14) rfl (by decide) wf_X5_150 dX5_digest_111 ?_
            refine sw_goto X 118 (by decide) dX5_digest_114 ?_
            refine sw_sub [0, 2] rfl ?_
            exact J55 _ h
    · have h := ite_F h q10
      refine sw_iconst X (v := 0) (by decide) dX5_digest_44 ?_
      refine sw_istore X [(4, .int 0), (0, .ref (g.1 0)), (1, .long x6), (3, .int x7)] (by decide) rfl dX5_digest_45 ?_
      refine sw_sub [1, 2, 3, 0] rfl ?_
      refine lz2_E (fun (x60 : Int64) (x61 : Int32) => sw_V p l e 5 s m args below meth c g (sw_A g s.heap.size) (sw_QL below g args s r st) 5 47 [(0, .ref (g.1 0)), (1, .long x60), (3, .int x7), (4, .int x61)] [] st) h (fun f62 ih63 x60 x61 h => ?_)
      refine sw_iload X 3 rfl dX5_digest_47 ?_
      refine sw_bipush X (v := 6) (by decide) dX5_digest_49 ?_
      refine sw_icmp_ge X 78 (by decide) dX5_digest_51 (fun q64 => ?_) (fun q64 => ?_)
      · have h := ite_T h q64
        obtain ⟨x65, ex65⟩ : ∃ y : Int32, y = x7 + 1 := ⟨_, rfl⟩
        have h := nm_E h ex65
        refine sw_iinc X 2 x65 [(3, .int x65), (0, .ref (g.1 0)), (1, .long x60), (4, .int x61)] rfl (by rw [ex65]; rfl) (by decide) rfl dX5_digest_78 ?_
        refine sw_goto X 33 (by decide) dX5_digest_81 ?_
        refine sw_sub [1, 2, 0] rfl ?_
        exact ih9 _ _ h
      · have h := ite_F h q64
        refine sw_ldc2 X (v := 31) wl_X5_342 dX5_digest_54 ?_
        refine sw_lload_n X 1 rfl rfl dX5_digest_57 ?_
        refine sw_lmul X dX5_digest_58 ?_
        refine sw_aload_n X 0 rfl rfl dX5_digest_59 ?_
        refine sw_getR X sw_cl5 (show sw_kd 0 = 5 from rfl) (k := 4) rfl (by decide) (o1 := 15) rfl wf_X5_29 dX5_digest_60 ?_
        refine sw_iload_n X 2 rfl rfl dX5_digest_63 ?_
        refine sw_iload X 3 rfl dX5_digest_64 ?_
        obtain ⟨r67, c66, h⟩ := bo_E h
        refine sw_callVI X (o := 15) (As := (fun g => [.int x7, .int x61])) sw_cl4 (show sw_kd 15 = 4 from rfl) ws_X4_trait (by omega) (c_X4_trait F (show sw_kd 15 = 4 from rfl) x7 x61 st c66) rfl rfl (Nat.le_of_ble_eq_true rfl) wm_X5_140 dX5_digest_66 ?_
        refine sw_i2l X dX5_digest_69 ?_
        refine sw_ladd X dX5_digest_70 ?_
        refine sw_topl (fun x68 ex68 => ?_)
        have h := nm_E h ex68
        refine sw_lstore_n X [(1, .long x68), (0, .ref (g.1 0)), (3, .int x7), (4, .int x61)] rfl (by decide) rfl dX5_digest_71 ?_
        obtain ⟨x69, ex69⟩ : ∃ y : Int32, y = x61 + 1 := ⟨_, rfl⟩
        have h := nm_E h ex69
        refine sw_iinc X 3 x69 [(4, .int x69), (1, .long x68), (0, .ref (g.1 0)), (3, .int x7)] rfl (by rw [ex69]; rfl) (by decide) rfl dX5_digest_72 ?_
        refine sw_goto X 47 (by decide) dX5_digest_75 ?_
        refine sw_sub [2, 1, 3, 0] rfl ?_
        exact ih63 _ _ h
  · have h := ite_F h q5
    refine sw_ldc2 X (v := 31) wl_X5_342 dX5_digest_12 ?_
    refine sw_lload_n X 1 rfl rfl dX5_digest_15 ?_
    refine sw_lmul X dX5_digest_16 ?_
    refine sw_aload_n X 0 rfl rfl dX5_digest_17 ?_
    refine sw_iload_n X 2 rfl rfl dX5_digest_18 ?_
    obtain ⟨r71, c70, h⟩ := bo_E h
    refine sw_callVI X (o := 0) (As := (fun g => [.int x2])) sw_cl5 (show sw_kd 0 = 5 from rfl) ws_X5_count (by omega) (c_X5_count F x2 st c70) rfl rfl (Nat.le_of_ble_eq_true rfl) wm_X5_344 dX5_digest_19 ?_
    refine sw_i2l X dX5_digest_22 ?_
    refine sw_ladd X dX5_digest_23 ?_
    refine sw_topl (fun x72 ex72 => ?_)
    have h := nm_E h ex72
    refine sw_lstore_n X [(1, .long x72), (0, .ref (g.1 0)), (3, .int x2)] rfl (by decide) rfl dX5_digest_24 ?_
    obtain ⟨x73, ex73⟩ : ∃ y : Int32, y = x2 + 1 := ⟨_, rfl⟩
    have h := nm_E h ex73
    refine sw_iinc X 2 x73 [(3, .int x73), (1, .long x72), (0, .ref (g.1 0))] rfl (by rw [ex73]; rfl) (by decide) rfl dX5_digest_25 ?_
    refine sw_goto X 6 (by decide) dX5_digest_28 ?_
    refine sw_sub [2, 1, 0] rfl ?_
    exact ih4 _ _ h
theorem dX6_bits_0 : decode cX6_bits 0 = .ok (.iconst 0, 1) := by decide +kernel
theorem dX6_bits_1 : decode cX6_bits 1 = .ok (.istore_n 1, 1) := by decide +kernel
theorem dX6_bits_2 : decode cX6_bits 2 = .ok (.iconst 0, 1) := by decide +kernel
theorem dX6_bits_3 : decode cX6_bits 3 = .ok (.istore_n 2, 1) := by decide +kernel
theorem dX6_bits_4 : decode cX6_bits 4 = .ok (.iload_n 2, 1) := by decide +kernel
theorem dX6_bits_5 : decode cX6_bits 5 = .ok (.bipush 6, 2) := by decide +kernel
theorem dX6_bits_7 : decode cX6_bits 7 = .ok (.if_icmp .ge 17, 3) := by decide +kernel
theorem dX6_bits_10 : decode cX6_bits 10 = .ok (.iload_n 1, 1) := by decide +kernel
theorem dX6_bits_11 : decode cX6_bits 11 = .ok (.iload_n 0, 1) := by decide +kernel
theorem dX6_bits_12 : decode cX6_bits 12 = .ok (.iload_n 2, 1) := by decide +kernel
theorem dX6_bits_13 : decode cX6_bits 13 = .ok (.ishr, 1) := by decide +kernel
theorem dX6_bits_14 : decode cX6_bits 14 = .ok (.iconst 1, 1) := by decide +kernel
theorem dX6_bits_15 : decode cX6_bits 15 = .ok (.iand, 1) := by decide +kernel
theorem dX6_bits_16 : decode cX6_bits 16 = .ok (.iadd, 1) := by decide +kernel
theorem dX6_bits_17 : decode cX6_bits 17 = .ok (.istore_n 1, 1) := by decide +kernel
theorem dX6_bits_18 : decode cX6_bits 18 = .ok (.iinc 2 1, 3) := by decide +kernel
theorem dX6_bits_21 : decode cX6_bits 21 = .ok (.goto (-17), 3) := by decide +kernel
theorem dX6_bits_24 : decode cX6_bits 24 = .ok (.iload_n 1, 1) := by decide +kernel
theorem dX6_bits_25 : decode cX6_bits 25 = .ok (.ireturn, 1) := by decide +kernel
def j_X6_bits (F : Nat) (a1 : Int32) (st : sw_St) : Option Int32 :=
lz2 (fun f3 (x1 : Int32) (x2 : Int32) =>
 (if 6 ≤ x2 then (
  some (x1 : Int32))
 else (
  nm (x1 + ((a1 >>> (x2 &&& 31)) &&& 1)) (fun (x6 : Int32) =>
  nm (x2 + 1) (fun (x7 : Int32) =>
  f3 x6 x7))))) F 0 0
set_option maxHeartbeats 4000000 in
set_option maxRecDepth 100000 in
theorem c_X6_bits (F : Nat) (a1 : Int32) (st : sw_St) {r : Int32} (h : j_X6_bits F a1 st = some r) : sw_CI yX6_bits (.code yX6_bits cX6_bits 3 (some .int)) 1 (fun g => [.int a1]) st r st := by
  refine sw_entI RX6 (fun g => [(0, .int a1)]) (by decide) rfl (fun _ => Nat.le_of_ble_eq_true rfl) (fun _ => rfl) ?_
  intro p l e s m args below meth c g X hr hlk
  unfold j_X6_bits at h
  refine sw_iconst X (v := 0) (by decide) dX6_bits_0 ?_
  refine sw_istore_n X [(1, .int 0), (0, .int a1)] rfl (by decide) rfl dX6_bits_1 ?_
  refine sw_iconst X (v := 0) (by decide) dX6_bits_2 ?_
  refine sw_istore_n X [(2, .int 0), (1, .int 0), (0, .int a1)] rfl (by decide) rfl dX6_bits_3 ?_
  refine sw_sub [2, 1, 0] rfl ?_
  refine lz2_E (fun (x1 : Int32) (x2 : Int32) => sw_V p l e 1 s m args below meth c g (sw_A g s.heap.size) (sw_QI below g args s r st) 3 4 [(0, .int a1), (1, .int x1), (2, .int x2)] [] st) h (fun f3 ih4 x1 x2 h => ?_)
  refine sw_iload_n X 2 rfl rfl dX6_bits_4 ?_
  refine sw_bipush X (v := 6) (by decide) dX6_bits_5 ?_
  refine sw_icmp_ge X 24 (by decide) dX6_bits_7 (fun q5 => ?_) (fun q5 => ?_)
  · have h := ite_T h q5
    refine sw_iload_n X 1 rfl rfl dX6_bits_24 ?_
    exact sw_iret X hr hlk dX6_bits_25 (by cases h; rfl)
  · have h := ite_F h q5
    refine sw_iload_n X 1 rfl rfl dX6_bits_10 ?_
    refine sw_iload_n X 0 rfl rfl dX6_bits_11 ?_
    refine sw_iload_n X 2 rfl rfl dX6_bits_12 ?_
    refine sw_ishr X dX6_bits_13 ?_
    refine sw_iconst X (v := 1) (by decide) dX6_bits_14 ?_
    refine sw_iand X dX6_bits_15 ?_
    refine sw_iadd X dX6_bits_16 ?_
    refine sw_topi (fun x6 ex6 => ?_)
    have h := nm_E h ex6
    refine sw_istore_n X [(1, .int x6), (0, .int a1), (2, .int x2)] rfl (by decide) rfl dX6_bits_17 ?_
    obtain ⟨x7, ex7⟩ : ∃ y : Int32, y = x2 + 1 := ⟨_, rfl⟩
    have h := nm_E h ex7
    refine sw_iinc X 2 x7 [(2, .int x7), (1, .int x6), (0, .int a1)] rfl (by rw [ex7]; rfl) (by decide) rfl dX6_bits_18 ?_
    refine sw_goto X 4 (by decide) dX6_bits_21 ?_
    refine sw_sub [2, 1, 0] rfl ?_
    exact ih4 _ _ h
theorem dX6_in_0 : decode cX6_in 0 = .ok (.lload_n 0, 1) := by decide +kernel
theorem dX6_in_1 : decode cX6_in 1 = .ok (.lload_n 2, 1) := by decide +kernel
theorem dX6_in_2 : decode cX6_in 2 = .ok (.lcmp, 1) := by decide +kernel
theorem dX6_in_3 : decode cX6_in 3 = .ok (.ifCond .lt 14, 3) := by decide +kernel
theorem dX6_in_6 : decode cX6_in 6 = .ok (.lload_n 0, 1) := by decide +kernel
theorem dX6_in_7 : decode cX6_in 7 = .ok (.lload 4, 2) := by decide +kernel
theorem dX6_in_9 : decode cX6_in 9 = .ok (.lcmp, 1) := by decide +kernel
theorem dX6_in_10 : decode cX6_in 10 = .ok (.ifCond .gt 7, 3) := by decide +kernel
theorem dX6_in_13 : decode cX6_in 13 = .ok (.iconst 1, 1) := by decide +kernel
theorem dX6_in_14 : decode cX6_in 14 = .ok (.goto 4, 3) := by decide +kernel
theorem dX6_in_17 : decode cX6_in 17 = .ok (.iconst 0, 1) := by decide +kernel
theorem dX6_in_18 : decode cX6_in 18 = .ok (.ireturn, 1) := by decide +kernel
def j_X6_in (F : Nat) (a1 : Int64) (a2 : Int64) (a3 : Int64) (st : sw_St) : Option Int32 :=
jn (fun (x1 : Int32) => 
  grd (x1 = 0 ∨ x1 = 1) (some (x1 : Int32))) (fun k2 =>
 jn (
   k2 0) (fun k5 =>
  (if (lg_cmp a1 a2) < 0 then (
   k5)
  else (
   (if 0 < (lg_cmp a1 a3) then (
    k5)
   else (
    k2 1))))))
set_option maxHeartbeats 4000000 in
set_option maxRecDepth 100000 in
theorem c_X6_in (F : Nat) (a1 : Int64) (a2 : Int64) (a3 : Int64) (st : sw_St) {r : Int32} (h : j_X6_in F a1 a2 a3 st = some r) : sw_CI yX6_in (.code yX6_in cX6_in 6 (some .boolean)) 1 (fun g => [.long a1, .long a2, .long a3]) st r st := by
  refine sw_entI RX6 (fun g => [(0, .long a1), (2, .long a2), (4, .long a3)]) (by decide) rfl (fun _ => Nat.le_of_ble_eq_true rfl) (fun _ => rfl) ?_
  intro p l e s m args below meth c g X hr hlk
  unfold j_X6_in at h
  refine sw_lload_n X 0 rfl rfl dX6_in_0 ?_
  refine sw_lload_n X 1 rfl rfl dX6_in_1 ?_
  refine sw_lcmp X dX6_in_2 ?_
  refine jn1_E (fun (x1 : Int32) => sw_V p l e 1 s m args below meth c g (sw_A g s.heap.size) (sw_QI below g args s r st) 6 18 [] [.int x1] st) h (fun x1 h => ?_) (fun k2 J3 h => ?_)
  · obtain ⟨q4, h⟩ := grd_E h
    exact sw_zret X hr hlk q4 dX6_in_18 (by cases h; rfl)
  · refine jn0_E (sw_V p l e 1 s m args below meth c g (sw_A g s.heap.size) (sw_QI below g args s r st) 6 17 [] [] st) h (fun h => ?_) (fun k5 J6 h => ?_)
    · refine sw_iconst X (v := 0) (by decide) dX6_in_17 ?_
      exact J3 _ h
    · refine sw_if_lt X 17 (by decide) dX6_in_3 (fun q7 => ?_) (fun q7 => ?_)
      · have h := ite_T h q7
        refine sw_sub [] rfl ?_
        exact J6  h
      · have h := ite_F h q7
        refine sw_lload_n X 0 rfl rfl dX6_in_6 ?_
        refine sw_lload X 2 rfl dX6_in_7 ?_
        refine sw_lcmp X dX6_in_9 ?_
        refine sw_if_gt X 17 (by decide) dX6_in_10 (fun q8 => ?_) (fun q8 => ?_)
        · have h := ite_T h q8
          refine sw_sub [] rfl ?_
          exact J6  h
        · have h := ite_F h q8
          refine sw_iconst X (v := 1) (by decide) dX6_in_13 ?_
          refine sw_goto X 18 (by decide) dX6_in_14 ?_
          refine sw_sub [] rfl ?_
          exact J3 _ h
theorem dX6_has_0 : decode cX6_has 0 = .ok (.iload_n 0, 1) := by decide +kernel
theorem dX6_has_1 : decode cX6_has 1 = .ok (.iload_n 1, 1) := by decide +kernel
theorem dX6_has_2 : decode cX6_has 2 = .ok (.ishr, 1) := by decide +kernel
theorem dX6_has_3 : decode cX6_has 3 = .ok (.iconst 1, 1) := by decide +kernel
theorem dX6_has_4 : decode cX6_has 4 = .ok (.iand, 1) := by decide +kernel
theorem dX6_has_5 : decode cX6_has 5 = .ok (.iconst 1, 1) := by decide +kernel
theorem dX6_has_6 : decode cX6_has 6 = .ok (.if_icmp .ne 7, 3) := by decide +kernel
theorem dX6_has_9 : decode cX6_has 9 = .ok (.iconst 1, 1) := by decide +kernel
theorem dX6_has_10 : decode cX6_has 10 = .ok (.goto 4, 3) := by decide +kernel
theorem dX6_has_13 : decode cX6_has 13 = .ok (.iconst 0, 1) := by decide +kernel
theorem dX6_has_14 : decode cX6_has 14 = .ok (.ireturn, 1) := by decide +kernel
def j_X6_has (F : Nat) (a1 : Int32) (a2 : Int32) (st : sw_St) : Option Int32 :=
jn (fun (x1 : Int32) => 
  grd (x1 = 0 ∨ x1 = 1) (some (x1 : Int32))) (fun k2 =>
 (if ((a1 >>> (a2 &&& 31)) &&& 1) = 1 then (
  k2 1)
 else (
  k2 0)))
set_option maxHeartbeats 4000000 in
set_option maxRecDepth 100000 in
theorem c_X6_has (F : Nat) (a1 : Int32) (a2 : Int32) (st : sw_St) {r : Int32} (h : j_X6_has F a1 a2 st = some r) : sw_CI yX6_has (.code yX6_has cX6_has 2 (some .boolean)) 1 (fun g => [.int a1, .int a2]) st r st := by
  refine sw_entI RX6 (fun g => [(0, .int a1), (1, .int a2)]) (by decide) rfl (fun _ => Nat.le_of_ble_eq_true rfl) (fun _ => rfl) ?_
  intro p l e s m args below meth c g X hr hlk
  unfold j_X6_has at h
  refine sw_iload_n X 0 rfl rfl dX6_has_0 ?_
  refine sw_iload_n X 1 rfl rfl dX6_has_1 ?_
  refine sw_ishr X dX6_has_2 ?_
  refine sw_iconst X (v := 1) (by decide) dX6_has_3 ?_
  refine sw_iand X dX6_has_4 ?_
  refine sw_iconst X (v := 1) (by decide) dX6_has_5 ?_
  refine jn1_E (fun (x1 : Int32) => sw_V p l e 1 s m args below meth c g (sw_A g s.heap.size) (sw_QI below g args s r st) 2 14 [] [.int x1] st) h (fun x1 h => ?_) (fun k2 J3 h => ?_)
  · obtain ⟨q4, h⟩ := grd_E h
    exact sw_zret X hr hlk q4 dX6_has_14 (by cases h; rfl)
  · refine sw_icmp_ne X 13 (by decide) dX6_has_6 (fun q5 => ?_) (fun q5 => ?_)
    · have h := ite_F h q5
      refine sw_iconst X (v := 0) (by decide) dX6_has_13 ?_
      refine sw_sub [] rfl ?_
      exact J3 _ h
    · have h := ite_T h q5
      refine sw_iconst X (v := 1) (by decide) dX6_has_9 ?_
      refine sw_goto X 14 (by decide) dX6_has_10 ?_
      refine sw_sub [] rfl ?_
      exact J3 _ h
theorem dX6_find_0 : decode cX6_find 0 = .ok (.aload_n 0, 1) := by decide +kernel
theorem dX6_find_1 : decode cX6_find 1 = .ok (.iload_n 1, 1) := by decide +kernel
theorem dX6_find_2 : decode cX6_find 2 = .ok (.putfield 54, 3) := by decide +kernel
theorem dX6_find_5 : decode cX6_find 5 = .ok (.aload_n 0, 1) := by decide +kernel
theorem dX6_find_6 : decode cX6_find 6 = .ok (.getfield 38, 3) := by decide +kernel
theorem dX6_find_9 : decode cX6_find 9 = .ok (.iload_n 1, 1) := by decide +kernel
theorem dX6_find_10 : decode cX6_find 10 = .ok (.dup2, 1) := by decide +kernel
theorem dX6_find_11 : decode cX6_find 11 = .ok (.iaload, 1) := by decide +kernel
theorem dX6_find_12 : decode cX6_find 12 = .ok (.iconst 1, 1) := by decide +kernel
theorem dX6_find_13 : decode cX6_find 13 = .ok (.iadd, 1) := by decide +kernel
theorem dX6_find_14 : decode cX6_find 14 = .ok (.iastore, 1) := by decide +kernel
theorem dX6_find_15 : decode cX6_find 15 = .ok (.bipush (-3), 2) := by decide +kernel
theorem dX6_find_17 : decode cX6_find 17 = .ok (.ireturn, 1) := by decide +kernel
def j_X6_find (F : Nat) (a1 : Int32) (st : sw_St) : Option (Int32 × sw_St) :=
nm (sw_setC st 63 12 a1) (fun (s1 : sw_St) =>
bnd a1 6 (
bnd a1 6 (
nm (sw_setC s1 72 (a1 : Int32).toNatClampNeg ((s1.1 72 (a1 : Int32).toNatClampNeg) + 1)) (fun (s4 : sw_St) =>
some (((-3) : Int32), s4)))))
set_option maxHeartbeats 4000000 in
set_option maxRecDepth 100000 in
theorem c_X6_find (F : Nat) (a1 : Int32) (st : sw_St) {r : Int32} {st1 : sw_St} (h : j_X6_find F a1 st = some (r, st1)) : sw_CI yX6_find (.code yX6_find cX6_find 2 (some .int)) 1 (fun g => [.ref (g.1 63), .int a1]) st r st1 := by
  refine sw_entI RX6 (fun g => [(0, .ref (g.1 63)), (1, .int a1)]) (by decide) rfl (fun _ => Nat.le_of_ble_eq_true rfl) (fun _ => rfl) ?_
  intro p l e s m args below meth c g X hr hlk
  unfold j_X6_find at h
  refine sw_aload_n X 0 rfl rfl dX6_find_0 ?_
  refine sw_iload_n X 1 rfl rfl dX6_find_1 ?_
  refine sw_putI X sw_cl6 (show sw_kd 63 = 6 from rfl) (k := 12) rfl (by decide) rfl rfl wf_X6_54 dX6_find_2 (fun s1 es1 => ?_)
  have h := nm_E h es1
  refine sw_aload_n X 0 rfl rfl dX6_find_5 ?_
  refine sw_getR X sw_cl6 (show sw_kd 63 = 6 from rfl) (k := 13) rfl (by decide) (o1 := 72) rfl wf_X6_38 dX6_find_6 ?_
  refine sw_iload_n X 1 rfl rfl dX6_find_9 ?_
  refine sw_dup2 X rfl rfl dX6_find_10 ?_
  obtain ⟨q2, h⟩ := bnd_E h
  refine sw_iald X (show sw_kd 72 = 8 from rfl) (n := 6) rfl q2 dX6_find_11 ?_
  refine sw_iconst X (v := 1) (by decide) dX6_find_12 ?_
  refine sw_iadd X dX6_find_13 ?_
  obtain ⟨q3, h⟩ := bnd_E h
  refine sw_iast X (show sw_kd 72 = 8 from rfl) (n := 6) rfl q3 dX6_find_14 (fun s4 es4 => ?_)
  have h := nm_E h es4
  refine sw_bipush X (v := (-3)) (by decide) dX6_find_15 ?_
  exact sw_iret X hr hlk dX6_find_17 h
theorem dX6_tell_0 : decode cX6_tell 0 = .ok (.aload_n 0, 1) := by decide +kernel
theorem dX6_tell_1 : decode cX6_tell 1 = .ok (.iload_n 1, 1) := by decide +kernel
theorem dX6_tell_2 : decode cX6_tell 2 = .ok (.putfield 58, 3) := by decide +kernel
theorem dX6_tell_5 : decode cX6_tell 5 = .ok (.iconst 1, 1) := by decide +kernel
theorem dX6_tell_6 : decode cX6_tell 6 = .ok (.ireturn, 1) := by decide +kernel
def j_X6_tell (F : Nat) (a1 : Int32) (st : sw_St) : Option (Int32 × sw_St) :=
nm (sw_setC st 63 9 a1) (fun (s1 : sw_St) =>
some ((1 : Int32), s1))
set_option maxHeartbeats 4000000 in
set_option maxRecDepth 100000 in
theorem c_X6_tell (F : Nat) (a1 : Int32) (st : sw_St) {r : Int32} {st1 : sw_St} (h : j_X6_tell F a1 st = some (r, st1)) : sw_CI yX6_tell (.code yX6_tell cX6_tell 2 (some .int)) 1 (fun g => [.ref (g.1 63), .int a1]) st r st1 := by
  refine sw_entI RX6 (fun g => [(0, .ref (g.1 63)), (1, .int a1)]) (by decide) rfl (fun _ => Nat.le_of_ble_eq_true rfl) (fun _ => rfl) ?_
  intro p l e s m args below meth c g X hr hlk
  unfold j_X6_tell at h
  refine sw_aload_n X 0 rfl rfl dX6_tell_0 ?_
  refine sw_iload_n X 1 rfl rfl dX6_tell_1 ?_
  refine sw_putI X sw_cl6 (show sw_kd 63 = 6 from rfl) (k := 9) rfl (by decide) rfl rfl wf_X6_58 dX6_tell_2 (fun s1 es1 => ?_)
  have h := nm_E h es1
  refine sw_iconst X (v := 1) (by decide) dX6_tell_5 ?_
  exact sw_iret X hr hlk dX6_tell_6 h
theorem dX6_isRow_0 : decode cX6_isRow 0 = .ok (.iload_n 0, 1) := by decide +kernel
theorem dX6_isRow_1 : decode cX6_isRow 1 = .ok (.i2l, 1) := by decide +kernel
theorem dX6_isRow_2 : decode cX6_isRow 2 = .ok (.lconst 0, 1) := by decide +kernel
theorem dX6_isRow_3 : decode cX6_isRow 3 = .ok (.ldc2_w 61, 3) := by decide +kernel
theorem dX6_isRow_6 : decode cX6_isRow 6 = .ok (.invokestatic 63, 3) := by decide +kernel
theorem dX6_isRow_9 : decode cX6_isRow 9 = .ok (.ireturn, 1) := by decide +kernel
def j_X6_isRow (F : Nat) (a1 : Int32) (st : sw_St) : Option Int32 :=
bo (j_X6_in F ((a1 : Int32).toInt64) 0 5 st) (fun (r2 : Int32) =>
grd (r2 = 0 ∨ r2 = 1) (some (r2 : Int32)))
set_option maxHeartbeats 4000000 in
set_option maxRecDepth 100000 in
theorem c_X6_isRow (F : Nat) (a1 : Int32) (st : sw_St) {r : Int32} (h : j_X6_isRow F a1 st = some r) : sw_CI yX6_isRow (.code yX6_isRow cX6_isRow 1 (some .boolean)) 2 (fun g => [.int a1]) st r st := by
  refine sw_entI RX6 (fun g => [(0, .int a1)]) (by decide) rfl (fun _ => Nat.le_of_ble_eq_true rfl) (fun _ => rfl) ?_
  intro p l e s m args below meth c g X hr hlk
  unfold j_X6_isRow at h
  refine sw_iload_n X 0 rfl rfl dX6_isRow_0 ?_
  refine sw_i2l X dX6_isRow_1 ?_
  refine sw_lconst X (v := 0) (by decide) dX6_isRow_2 ?_
  refine sw_ldc2 X (v := 5) wl_X6_61 dX6_isRow_3 ?_
  obtain ⟨r2, c1, h⟩ := bo_E h
  refine sw_callSI X (As := (fun g => [.long ((a1 : Int32).toInt64), .long 0, .long 5])) ws_X6_in (by omega) (c_X6_in F ((a1 : Int32).toInt64) 0 5 st c1) rfl rfl (Nat.le_of_ble_eq_true rfl) wm_X6_63 dX6_isRow_6 ?_
  obtain ⟨q3, h⟩ := grd_E h
  exact sw_zret X hr hlk q3 dX6_isRow_9 (by cases h; rfl)
theorem dX6_isText_0 : decode cX6_isText 0 = .ok (.iload_n 0, 1) := by decide +kernel
theorem dX6_isText_1 : decode cX6_isText 1 = .ok (.i2l, 1) := by decide +kernel
theorem dX6_isText_2 : decode cX6_isText 2 = .ok (.lconst 0, 1) := by decide +kernel
theorem dX6_isText_3 : decode cX6_isText 3 = .ok (.ldc2_w 67, 3) := by decide +kernel
theorem dX6_isText_6 : decode cX6_isText 6 = .ok (.invokestatic 63, 3) := by decide +kernel
theorem dX6_isText_9 : decode cX6_isText 9 = .ok (.ireturn, 1) := by decide +kernel
def j_X6_isText (F : Nat) (a1 : Int32) (st : sw_St) : Option Int32 :=
bo (j_X6_in F ((a1 : Int32).toInt64) 0 3 st) (fun (r2 : Int32) =>
grd (r2 = 0 ∨ r2 = 1) (some (r2 : Int32)))
set_option maxHeartbeats 4000000 in
set_option maxRecDepth 100000 in
theorem c_X6_isText (F : Nat) (a1 : Int32) (st : sw_St) {r : Int32} (h : j_X6_isText F a1 st = some r) : sw_CI yX6_isText (.code yX6_isText cX6_isText 1 (some .boolean)) 2 (fun g => [.int a1]) st r st := by
  refine sw_entI RX6 (fun g => [(0, .int a1)]) (by decide) rfl (fun _ => Nat.le_of_ble_eq_true rfl) (fun _ => rfl) ?_
  intro p l e s m args below meth c g X hr hlk
  unfold j_X6_isText at h
  refine sw_iload_n X 0 rfl rfl dX6_isText_0 ?_
  refine sw_i2l X dX6_isText_1 ?_
  refine sw_lconst X (v := 0) (by decide) dX6_isText_2 ?_
  refine sw_ldc2 X (v := 3) wl_X6_67 dX6_isText_3 ?_
  obtain ⟨r2, c1, h⟩ := bo_E h
  refine sw_callSI X (As := (fun g => [.long ((a1 : Int32).toInt64), .long 0, .long 3])) ws_X6_in (by omega) (c_X6_in F ((a1 : Int32).toInt64) 0 3 st c1) rfl rfl (Nat.le_of_ble_eq_true rfl) wm_X6_63 dX6_isText_6 ?_
  obtain ⟨q3, h⟩ := grd_E h
  exact sw_zret X hr hlk q3 dX6_isText_9 (by cases h; rfl)
theorem dX6_makeRow_0 : decode cX6_makeRow 0 = .ok (.aload_n 0, 1) := by decide +kernel
theorem dX6_makeRow_1 : decode cX6_makeRow 1 = .ok (.getfield 22, 3) := by decide +kernel
theorem dX6_makeRow_4 : decode cX6_makeRow 4 = .ok (.iload_n 1, 1) := by decide +kernel
theorem dX6_makeRow_5 : decode cX6_makeRow 5 = .ok (.iload_n 2, 1) := by decide +kernel
theorem dX6_makeRow_6 : decode cX6_makeRow 6 = .ok (.iastore, 1) := by decide +kernel
theorem dX6_makeRow_7 : decode cX6_makeRow 7 = .ok (.iconst 0, 1) := by decide +kernel
theorem dX6_makeRow_8 : decode cX6_makeRow 8 = .ok (.istore_n 3, 1) := by decide +kernel
theorem dX6_makeRow_9 : decode cX6_makeRow 9 = .ok (.iload_n 3, 1) := by decide +kernel
theorem dX6_makeRow_10 : decode cX6_makeRow 10 = .ok (.bipush 40, 2) := by decide +kernel
theorem dX6_makeRow_12 : decode cX6_makeRow 12 = .ok (.if_icmp .ge 21, 3) := by decide +kernel
theorem dX6_makeRow_15 : decode cX6_makeRow 15 = .ok (.aload_n 0, 1) := by decide +kernel
theorem dX6_makeRow_16 : decode cX6_makeRow 16 = .ok (.getfield 25, 3) := by decide +kernel
theorem dX6_makeRow_19 : decode cX6_makeRow 19 = .ok (.bipush 40, 2) := by decide +kernel
theorem dX6_makeRow_21 : decode cX6_makeRow 21 = .ok (.iload_n 1, 1) := by decide +kernel
theorem dX6_makeRow_22 : decode cX6_makeRow 22 = .ok (.imul, 1) := by decide +kernel
theorem dX6_makeRow_23 : decode cX6_makeRow 23 = .ok (.iload_n 3, 1) := by decide +kernel
theorem dX6_makeRow_24 : decode cX6_makeRow 24 = .ok (.iadd, 1) := by decide +kernel
theorem dX6_makeRow_25 : decode cX6_makeRow 25 = .ok (.iconst 0, 1) := by decide +kernel
theorem dX6_makeRow_26 : decode cX6_makeRow 26 = .ok (.iastore, 1) := by decide +kernel
theorem dX6_makeRow_27 : decode cX6_makeRow 27 = .ok (.iinc 3 1, 3) := by decide +kernel
theorem dX6_makeRow_30 : decode cX6_makeRow 30 = .ok (.goto (-21), 3) := by decide +kernel
theorem dX6_makeRow_33 : decode cX6_makeRow 33 = .ok (.return_, 1) := by decide +kernel
def j_X6_makeRow (F : Nat) (a1 : Int32) (a2 : Int32) (st : sw_St) : Option (Unit × sw_St) :=
bnd a1 6 (
nm (sw_setC st 68 (a1 : Int32).toNatClampNeg a2) (fun (s2 : sw_St) =>
lz2 (fun f5 (x3 : Int32) (s4 : sw_St) =>
 (if 40 ≤ x3 then (
  some ((), s4))
 else (
  bnd ((40 * a1) + x3) 240 (
  nm (sw_setC s4 69 (((40 * a1) + x3) : Int32).toNatClampNeg 0) (fun (s9 : sw_St) =>
  nm (x3 + 1) (fun (x10 : Int32) =>
  f5 x10 s9)))))) F 0 s2))
set_option maxHeartbeats 4000000 in
set_option maxRecDepth 100000 in
theorem c_X6_makeRow (F : Nat) (a1 : Int32) (a2 : Int32) (st : sw_St) {st1 : sw_St} (h : j_X6_makeRow F a1 a2 st = some ((), st1)) : sw_CV yX6_makeRow (.code yX6_makeRow cX6_makeRow 4 none) 1 (fun g => [.ref (g.1 63), .int a1, .int a2]) st  st1 := by
  refine sw_entV RX6 (fun g => [(0, .ref (g.1 63)), (1, .int a1), (2, .int a2)]) (by decide) rfl (fun _ => Nat.le_of_ble_eq_true rfl) (fun _ => rfl) ?_
  intro p l e s m args below meth c g X hr hlk
  unfold j_X6_makeRow at h
  refine sw_aload_n X 0 rfl rfl dX6_makeRow_0 ?_
  refine sw_getR X sw_cl6 (show sw_kd 63 = 6 from rfl) (k := 5) rfl (by decide) (o1 := 68) rfl wf_X6_22 dX6_makeRow_1 ?_
  refine sw_iload_n X 1 rfl rfl dX6_makeRow_4 ?_
  refine sw_iload_n X 2 rfl rfl dX6_makeRow_5 ?_
  obtain ⟨q1, h⟩ := bnd_E h
  refine sw_iast X (show sw_kd 68 = 8 from rfl) (n := 6) rfl q1 dX6_makeRow_6 (fun s2 es2 => ?_)
  have h := nm_E h es2
  refine sw_iconst X (v := 0) (by decide) dX6_makeRow_7 ?_
  refine sw_istore_n X [(3, .int 0), (0, .ref (g.1 63)), (1, .int a1), (2, .int a2)] rfl (by decide) rfl dX6_makeRow_8 ?_
  refine sw_sub [1, 2, 0] rfl ?_
  refine lz2_E (fun (x3 : Int32) (s4 : sw_St) => sw_V p l e 1 s m args below meth c g (sw_A g s.heap.size) (sw_QV below g args s  st1) 4 9 [(0, .ref (g.1 63)), (1, .int a1), (3, .int x3)] [] s4) h (fun f5 ih6 x3 s4 h => ?_)
  refine sw_iload_n X 2 rfl rfl dX6_makeRow_9 ?_
  refine sw_bipush X (v := 40) (by decide) dX6_makeRow_10 ?_
  refine sw_icmp_ge X 33 (by decide) dX6_makeRow_12 (fun q7 => ?_) (fun q7 => ?_)
  · have h := ite_T h q7
    exact sw_vret X hr hlk dX6_makeRow_33 h
  · have h := ite_F h q7
    refine sw_aload_n X 0 rfl rfl dX6_makeRow_15 ?_
    refine sw_getR X sw_cl6 (show sw_kd 63 = 6 from rfl) (k := 6) rfl (by decide) (o1 := 69) rfl wf_X6_25 dX6_makeRow_16 ?_
    refine sw_bipush X (v := 40) (by decide) dX6_makeRow_19 ?_
    refine sw_iload_n X 1 rfl rfl dX6_makeRow_21 ?_
    refine sw_imul X dX6_makeRow_22 ?_
    refine sw_iload_n X 2 rfl rfl dX6_makeRow_23 ?_
    refine sw_iadd X dX6_makeRow_24 ?_
    refine sw_iconst X (v := 0) (by decide) dX6_makeRow_25 ?_
    obtain ⟨q8, h⟩ := bnd_E h
    refine sw_iast X (show sw_kd 69 = 8 from rfl) (n := 240) rfl q8 dX6_makeRow_26 (fun s9 es9 => ?_)
    have h := nm_E h es9
    obtain ⟨x10, ex10⟩ : ∃ y : Int32, y = x3 + 1 := ⟨_, rfl⟩
    have h := nm_E h ex10
    refine sw_iinc X 2 x10 [(3, .int x10), (0, .ref (g.1 63)), (1, .int a1)] rfl (by rw [ex10]; rfl) (by decide) rfl dX6_makeRow_27 ?_
    refine sw_goto X 9 (by decide) dX6_makeRow_30 ?_
    refine sw_sub [1, 2, 0] rfl ?_
    exact ih6 _ _ h
