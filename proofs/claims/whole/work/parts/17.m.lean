theorem dX5_behind_0 : decode cX5_behind 0 = .ok (.aload_n 0, 1) := by decide +kernel
theorem dX5_behind_1 : decode cX5_behind 1 = .ok (.iload_n 1, 1) := by decide +kernel
theorem dX5_behind_2 : decode cX5_behind 2 = .ok (.iconst 5, 1) := by decide +kernel
theorem dX5_behind_3 : decode cX5_behind 3 = .ok (.iconst 1, 1) := by decide +kernel
theorem dX5_behind_4 : decode cX5_behind 4 = .ok (.invokevirtual 196, 3) := by decide +kernel
theorem dX5_behind_7 : decode cX5_behind 7 = .ok (.istore_n 2, 1) := by decide +kernel
theorem dX5_behind_8 : decode cX5_behind 8 = .ok (.iload_n 2, 1) := by decide +kernel
theorem dX5_behind_9 : decode cX5_behind 9 = .ok (.ifCond .eq 5, 3) := by decide +kernel
theorem dX5_behind_12 : decode cX5_behind 12 = .ok (.iload_n 2, 1) := by decide +kernel
theorem dX5_behind_13 : decode cX5_behind 13 = .ok (.ireturn, 1) := by decide +kernel
theorem dX5_behind_14 : decode cX5_behind 14 = .ok (.aload_n 0, 1) := by decide +kernel
theorem dX5_behind_15 : decode cX5_behind 15 = .ok (.getfield 29, 3) := by decide +kernel
theorem dX5_behind_18 : decode cX5_behind 18 = .ok (.getfield 166, 3) := by decide +kernel
theorem dX5_behind_21 : decode cX5_behind 21 = .ok (.istore_n 3, 1) := by decide +kernel
theorem dX5_behind_22 : decode cX5_behind 22 = .ok (.aload_n 0, 1) := by decide +kernel
theorem dX5_behind_23 : decode cX5_behind 23 = .ok (.getfield 29, 3) := by decide +kernel
theorem dX5_behind_26 : decode cX5_behind 26 = .ok (.getfield 169, 3) := by decide +kernel
theorem dX5_behind_29 : decode cX5_behind 29 = .ok (.istore 4, 2) := by decide +kernel
theorem dX5_behind_31 : decode cX5_behind 31 = .ok (.iconst 0, 1) := by decide +kernel
theorem dX5_behind_32 : decode cX5_behind 32 = .ok (.istore 5, 2) := by decide +kernel
theorem dX5_behind_34 : decode cX5_behind 34 = .ok (.iconst 0, 1) := by decide +kernel
theorem dX5_behind_35 : decode cX5_behind 35 = .ok (.istore 6, 2) := by decide +kernel
theorem dX5_behind_37 : decode cX5_behind 37 = .ok (.iload 6, 2) := by decide +kernel
theorem dX5_behind_39 : decode cX5_behind 39 = .ok (.aload_n 0, 1) := by decide +kernel
theorem dX5_behind_40 : decode cX5_behind 40 = .ok (.getfield 14, 3) := by decide +kernel
theorem dX5_behind_43 : decode cX5_behind 43 = .ok (.iload_n 1, 1) := by decide +kernel
theorem dX5_behind_44 : decode cX5_behind 44 = .ok (.iaload, 1) := by decide +kernel
theorem dX5_behind_45 : decode cX5_behind 45 = .ok (.if_icmp .ge 72, 3) := by decide +kernel
theorem dX5_behind_48 : decode cX5_behind 48 = .ok (.aload_n 0, 1) := by decide +kernel
theorem dX5_behind_49 : decode cX5_behind 49 = .ok (.getfield 11, 3) := by decide +kernel
theorem dX5_behind_52 : decode cX5_behind 52 = .ok (.iload_n 1, 1) := by decide +kernel
theorem dX5_behind_53 : decode cX5_behind 53 = .ok (.aaload, 1) := by decide +kernel
theorem dX5_behind_54 : decode cX5_behind 54 = .ok (.iload 6, 2) := by decide +kernel
theorem dX5_behind_56 : decode cX5_behind 56 = .ok (.iaload, 1) := by decide +kernel
theorem dX5_behind_57 : decode cX5_behind 57 = .ok (.istore 7, 2) := by decide +kernel
theorem dX5_behind_59 : decode cX5_behind 59 = .ok (.iload 7, 2) := by decide +kernel
theorem dX5_behind_61 : decode cX5_behind 61 = .ok (.bipush (-9), 2) := by decide +kernel
theorem dX5_behind_63 : decode cX5_behind 63 = .ok (.if_icmp .eq 25, 3) := by decide +kernel
theorem dX5_behind_66 : decode cX5_behind 66 = .ok (.aload_n 0, 1) := by decide +kernel
theorem dX5_behind_67 : decode cX5_behind 67 = .ok (.getfield 29, 3) := by decide +kernel
theorem dX5_behind_70 : decode cX5_behind 70 = .ok (.iload 7, 2) := by decide +kernel
theorem dX5_behind_72 : decode cX5_behind 72 = .ok (.iload_n 3, 1) := by decide +kernel
theorem dX5_behind_73 : decode cX5_behind 73 = .ok (.iload 4, 2) := by decide +kernel
theorem dX5_behind_75 : decode cX5_behind 75 = .ok (.invokevirtual 200, 3) := by decide +kernel
theorem dX5_behind_78 : decode cX5_behind 78 = .ok (.istore_n 3, 1) := by decide +kernel
theorem dX5_behind_79 : decode cX5_behind 79 = .ok (.iload 4, 2) := by decide +kernel
theorem dX5_behind_81 : decode cX5_behind 81 = .ok (.iconst 1, 1) := by decide +kernel
theorem dX5_behind_82 : decode cX5_behind 82 = .ok (.iload 7, 2) := by decide +kernel
theorem dX5_behind_84 : decode cX5_behind 84 = .ok (.ishl, 1) := by decide +kernel
theorem dX5_behind_85 : decode cX5_behind 85 = .ok (.ior, 1) := by decide +kernel
theorem dX5_behind_86 : decode cX5_behind 86 = .ok (.istore 4, 2) := by decide +kernel
theorem dX5_behind_88 : decode cX5_behind 88 = .ok (.iload 5, 2) := by decide +kernel
theorem dX5_behind_90 : decode cX5_behind 90 = .ok (.iload_n 3, 1) := by decide +kernel
theorem dX5_behind_91 : decode cX5_behind 91 = .ok (.ifCond .le 7, 3) := by decide +kernel
theorem dX5_behind_94 : decode cX5_behind 94 = .ok (.iconst 1, 1) := by decide +kernel
theorem dX5_behind_95 : decode cX5_behind 95 = .ok (.goto 4, 3) := by decide +kernel
theorem dX5_behind_98 : decode cX5_behind 98 = .ok (.iconst 0, 1) := by decide +kernel
theorem dX5_behind_99 : decode cX5_behind 99 = .ok (.iadd, 1) := by decide +kernel
theorem dX5_behind_100 : decode cX5_behind 100 = .ok (.istore 5, 2) := by decide +kernel
theorem dX5_behind_102 : decode cX5_behind 102 = .ok (.aload_n 0, 1) := by decide +kernel
theorem dX5_behind_103 : decode cX5_behind 103 = .ok (.getfield 29, 3) := by decide +kernel
theorem dX5_behind_106 : decode cX5_behind 106 = .ok (.iload_n 3, 1) := by decide +kernel
theorem dX5_behind_107 : decode cX5_behind 107 = .ok (.invokevirtual 256, 3) := by decide +kernel
theorem dX5_behind_110 : decode cX5_behind 110 = .ok (.istore_n 3, 1) := by decide +kernel
theorem dX5_behind_111 : decode cX5_behind 111 = .ok (.iinc 6 1, 3) := by decide +kernel
theorem dX5_behind_114 : decode cX5_behind 114 = .ok (.goto (-77), 3) := by decide +kernel
theorem dX5_behind_117 : decode cX5_behind 117 = .ok (.aload_n 0, 1) := by decide +kernel
theorem dX5_behind_118 : decode cX5_behind 118 = .ok (.aload_n 0, 1) := by decide +kernel
theorem dX5_behind_119 : decode cX5_behind 119 = .ok (.getfield 29, 3) := by decide +kernel
theorem dX5_behind_122 : decode cX5_behind 122 = .ok (.iload 5, 2) := by decide +kernel
theorem dX5_behind_124 : decode cX5_behind 124 = .ok (.invokevirtual 259, 3) := by decide +kernel
theorem dX5_behind_127 : decode cX5_behind 127 = .ok (.putfield 79, 3) := by decide +kernel
theorem dX5_behind_130 : decode cX5_behind 130 = .ok (.iload_n 3, 1) := by decide +kernel
theorem dX5_behind_131 : decode cX5_behind 131 = .ok (.ireturn, 1) := by decide +kernel
def j_X5_behind (F : Nat) (a1 : Int32) (st : sw_St) : Option (Int32 × sw_St) :=
bd (j_X5_refusedGuests F a1 5 1 st) (fun (r2 : Int32) (s3 : sw_St) =>
(if r2 = 0 then (
 nm (s3.1 15 7) (fun (x5 : Int32) =>
 nm (s3.1 15 11) (fun (x6 : Int32) =>
 lz4 (fun f11 (x7 : Int32) (x8 : Int32) (x9 : Int32) (x10 : Int32) =>
  bnd a1 6 (
  (if (s3.1 8 (a1 : Int32).toNatClampNeg) ≤ x10 then (
   bo (j_X4_clockAfter F 15 x9 s3) (fun (r16 : Int32) =>
   nm (sw_setC s3 0 14 r16) (fun (s17 : sw_St) =>
   some ((x7 : Int32), s17))))
  else (
   bnd a1 6 (
   bnd x10 40 (
   nm (s3.1 (2 + (a1 : Int32).toNatClampNeg) (x10 : Int32).toNatClampNeg) (fun (x20 : Int32) =>
   jn (fun (x21 : Int32) (x22 : Int32) => 
     jn (fun (x25 : Int32) => 
       nm (x9 + x25) (fun (x28 : Int32) =>
       bo (j_X4_woundNext F 15 x21 s3) (fun (r30 : Int32) =>
       nm (x10 + 1) (fun (x31 : Int32) =>
       f11 r30 x22 x28 x31)))) (fun k26 =>
      (if x21 ≤ 0 then (
       k26 0)
      else (
       k26 1)))) (fun k23 =>
    (if x20 = (-9) then (
     k23 x7 x8)
    else (
     bo (j_X4_woundBy F 15 x20 x7 x8 s3) (fun (r35 : Int32) =>
     nm (x8 ||| (1 <<< (x20 &&& 31))) (fun (x36 : Int32) =>
     k23 r35 x36)))))))))))) F x5 x6 0 0)))
else (
 some ((r2 : Int32), s3))))
set_option maxHeartbeats 4000000 in
set_option maxRecDepth 100000 in
theorem c_X5_behind (F : Nat) (a1 : Int32) (st : sw_St) {r : Int32} {st1 : sw_St} (h : j_X5_behind F a1 st = some (r, st1)) : sw_CI yX5_behind (.code yX5_behind cX5_behind 8 (some .int)) 5 (fun g => [.ref (g.1 0), .int a1]) st r st1 := by
  refine sw_entI RX5 (fun g => [(0, .ref (g.1 0)), (1, .int a1)]) (by decide) rfl (fun _ => Nat.le_of_ble_eq_true rfl) (fun _ => rfl) ?_
  intro p l e s m args below meth c g X hr hlk
  unfold j_X5_behind at h
  refine sw_aload_n X 0 rfl rfl dX5_behind_0 ?_
  refine sw_iload_n X 1 rfl rfl dX5_behind_1 ?_
  refine sw_iconst X (v := 5) (by decide) dX5_behind_2 ?_
  refine sw_iconst X (v := 1) (by decide) dX5_behind_3 ?_
  obtain ⟨r2, s3, c1, h⟩ := bd_E h
  refine sw_callVI X (o := 0) (As := (fun g => [.int a1, .int 5, .int 1])) sw_cl5 (show sw_kd 0 = 5 from rfl) ws_X5_refusedGuests (by omega) (c_X5_refusedGuests F a1 5 1 st c1) rfl rfl (Nat.le_of_ble_eq_true rfl) wm_X5_196 dX5_behind_4 ?_
  refine sw_istore_n X [(2, .int r2), (0, .ref (g.1 0)), (1, .int a1)] rfl (by decide) rfl dX5_behind_7 ?_
  refine sw_iload_n X 0 rfl rfl dX5_behind_8 ?_
  refine sw_if_eq X 14 (by decide) dX5_behind_9 (fun q4 => ?_) (fun q4 => ?_)
  · have h := ite_T h q4
    refine sw_aload_n X 1 rfl rfl dX5_behind_14 ?_
    refine sw_getR X sw_cl5 (show sw_kd 0 = 5 from rfl) (k := 4) rfl (by decide) (o1 := 15) rfl wf_X5_29 dX5_behind_15 ?_
    refine sw_getI X sw_cl4 (show sw_kd 15 = 4 from rfl) (k := 7) rfl (by decide) wf_X5_166 dX5_behind_18 ?_
    refine sw_topi (fun x5 ex5 => ?_)
    have h := nm_E h ex5
    refine sw_istore_n X [(3, .int x5), (2, .int r2), (0, .ref (g.1 0)), (1, .int a1)] rfl (by decide) rfl dX5_behind_21 ?_
    refine sw_aload_n X 2 rfl rfl dX5_behind_22 ?_
    refine sw_getR X sw_cl5 (show sw_kd 0 = 5 from rfl) (k := 4) rfl (by decide) (o1 := 15) rfl wf_X5_29 dX5_behind_23 ?_
    refine sw_getI X sw_cl4 (show sw_kd 15 = 4 from rfl) (k := 11) rfl (by decide) wf_X5_169 dX5_behind_26 ?_
    refine sw_topi (fun x6 ex6 => ?_)
    have h := nm_E h ex6
    refine sw_istore X [(4, .int x6), (3, .int x5), (2, .int r2), (0, .ref (g.1 0)), (1, .int a1)] (by decide) rfl dX5_behind_29 ?_
    refine sw_iconst X (v := 0) (by decide) dX5_behind_31 ?_
    refine sw_istore X [(5, .int 0), (4, .int x6), (3, .int x5), (2, .int r2), (0, .ref (g.1 0)), (1, .int a1)] (by decide) rfl dX5_behind_32 ?_
    refine sw_iconst X (v := 0) (by decide) dX5_behind_34 ?_
    refine sw_istore X [(6, .int 0), (5, .int 0), (4, .int x6), (3, .int x5), (2, .int r2), (0, .ref (g.1 0)), (1, .int a1)] (by decide) rfl dX5_behind_35 ?_
    refine sw_sub [5, 6, 3, 2, 1, 0] rfl ?_
    refine lz4_E (fun (x7 : Int32) (x8 : Int32) (x9 : Int32) (x10 : Int32) => sw_V p l e 5 s m args below meth c g (sw_A g s.heap.size) (sw_QI below g args s r st1) 8 37 [(0, .ref (g.1 0)), (1, .int a1), (3, .int x7), (4, .int x8), (5, .int x9), (6, .int x10)] [] s3) h (fun f11 ih12 x7 x8 x9 x10 h => ?_)
    refine sw_iload X 5 rfl dX5_behind_37 ?_
    refine sw_aload_n X 0 rfl rfl dX5_behind_39 ?_
    refine sw_getR X sw_cl5 (show sw_kd 0 = 5 from rfl) (k := 1) rfl (by decide) (o1 := 8) rfl wf_X5_14 dX5_behind_40 ?_
    refine sw_iload_n X 1 rfl rfl dX5_behind_43 ?_
    obtain ⟨q13, h⟩ := bnd_E h
    refine sw_iald X (show sw_kd 8 = 8 from rfl) (n := 6) rfl q13 dX5_behind_44 ?_
    refine sw_icmp_ge X 117 (by decide) dX5_behind_45 (fun q14 => ?_) (fun q14 => ?_)
    · have h := ite_T h q14
      refine sw_aload_n X 0 rfl rfl dX5_behind_117 ?_
      refine sw_aload_n X 0 rfl rfl dX5_behind_118 ?_
      refine sw_getR X sw_cl5 (show sw_kd 0 = 5 from rfl) (k := 4) rfl (by decide) (o1 := 15) rfl wf_X5_29 dX5_behind_119 ?_
      refine sw_iload X 4 rfl dX5_behind_122 ?_
      obtain ⟨r16, c15, h⟩ := bo_E h
      refine sw_callVI X (o := 15) (As := (fun g => [.int x9])) sw_cl4 (show sw_kd 15 = 4 from rfl) ws_X4_clockAfter (by omega) (c_X4_clockAfter F (show sw_kd 15 = 4 from rfl) x9 s3 c15) rfl rfl (Nat.le_of_ble_eq_true rfl) wm_X5_259 dX5_behind_124 ?_
      refine sw_putI X sw_cl5 (show sw_kd 0 = 5 from rfl) (k := 14) rfl (by decide) rfl rfl wf_X5_79 dX5_behind_127 (fun s17 es17 => ?_)
      have h := nm_E h es17
      refine sw_iload_n X 2 rfl rfl dX5_behind_130 ?_
      exact sw_iret X hr hlk dX5_behind_131 h
    · have h := ite_F h q14
      refine sw_aload_n X 0 rfl rfl dX5_behind_48 ?_
      refine sw_getR X sw_cl5 (show sw_kd 0 = 5 from rfl) (k := 0) rfl (by decide) (o1 := 1) rfl wf_X5_11 dX5_behind_49 ?_
      refine sw_iload_n X 1 rfl rfl dX5_behind_52 ?_
      obtain ⟨q18, h⟩ := bnd_E h
      refine sw_aaldI X (show sw_kd 1 = 12 from rfl) (n := 6) rfl q18 (a1 := 2 + (a1 : Int32).toNatClampNeg) rfl dX5_behind_53 ?_
      refine sw_iload X 5 rfl dX5_behind_54 ?_
      obtain ⟨q19, h⟩ := bnd_E h
      refine sw_iald X (show sw_kd (2 + (a1 : Int32).toNatClampNeg) = 8 from (sw_rk q18)) (n := 40) (sw_rn q18) q19 dX5_behind_56 ?_
      refine sw_topi (fun x20 ex20 => ?_)
      have h := nm_E h ex20
      refine sw_istore X [(7, .int x20), (0, .ref (g.1 0)), (1, .int a1), (3, .int x7), (4, .int x8), (5, .int x9), (6, .int x10)] (by decide) rfl dX5_behind_57 ?_
      refine sw_iload X 0 rfl dX5_behind_59 ?_
      refine sw_bipush X (v := (-9)) (by decide) dX5_behind_61 ?_
      refine jn2_E (fun (x21 : Int32) (x22 : Int32) => sw_V p l e 5 s m args below meth c g (sw_A g s.heap.size) (sw_QI below g args s r st1) 8 88 [(0, .ref (g.1 0)), (1, .int a1), (3, .int x21), (4, .int x22), (5, .int x9), (6, .int x10)] [] s3) h (fun x21 x22 h => ?_) (fun k23 J24 h => ?_)
      · refine sw_iload X 4 rfl dX5_behind_88 ?_
        refine sw_iload_n X 2 rfl rfl dX5_behind_90 ?_
        refine jn1_E (fun (x25 : Int32) => sw_V p l e 5 s m args below meth c g (sw_A g s.heap.size) (sw_QI below g args s r st1) 8 99 [(0, .ref (g.1 0)), (1, .int a1), (3, .int x21), (4, .int x22), (6, .int x10)] [.int x25, .int x9] s3) h (fun x25 h => ?_) (fun k26 J27 h => ?_)
        · refine sw_iadd X dX5_behind_99 ?_
          refine sw_topi (fun x28 ex28 => ?_)
          have h := nm_E h ex28
          refine sw_istore X [(5, .int x28), (0, .ref (g.1 0)), (1, .int a1), (3, .int x21), (4, .int x22), (6, .int x10)] (by decide) rfl dX5_behind_100 ?_
          refine sw_aload_n X 1 rfl rfl dX5_behind_102 ?_
          refine sw_getR X sw_cl5 (show sw_kd 0 = 5 from rfl) (k := 4) rfl (by decide) (o1 := 15) rfl wf_X5_29 dX5_behind_103 ?_
          refine sw_iload_n X 3 rfl rfl dX5_behind_106 ?_
          obtain ⟨r30, c29, h⟩ := bo_E h
          refine sw_callVI X (o := 15) (As := (fun g => [.int x21])) sw_cl4 (show sw_kd 15 = 4 from rfl) ws_X4_woundNext (by omega) (c_X4_woundNext F (show sw_kd 15 = 4 from rfl) x21 s3 c29) rfl rfl (Nat.le_of_ble_eq_true rfl) wm_X5_256 dX5_behind_107 ?_
          refine sw_istore_n X [(3, .int r30), (5, .int x28), (0, .ref (g.1 0)), (1, .int a1), (4, .int x22), (6, .int x10)] rfl (by decide) rfl dX5_behind_110 ?_
          obtain ⟨x31, ex31⟩ : ∃ y : Int32, y = x10 + 1 := ⟨_, rfl⟩
          have h := nm_E h ex31
          refine sw_iinc X 5 x31 [(6, .int x31), (3, .int r30), (5, .int x28), (0, .ref (g.1 0)), (1, .int a1), (4, .int x22)] rfl (by rw [ex31]; rfl) (by decide) rfl dX5_behind_111 ?_
          refine sw_goto X 37 (by decide) dX5_behind_114 ?_
          refine sw_sub [3, 4, 1, 5, 2, 0] rfl ?_
          exact ih12 _ _ _ _ h
        · refine sw_if_le X 98 (by decide) dX5_behind_91 (fun q32 => ?_) (fun q32 => ?_)
          · have h := ite_T h q32
            refine sw_iconst X (v := 0) (by decide) dX5_behind_98 ?_
            refine sw_sub [0, 1, 2, 3, 5] rfl ?_
            exact J27 _ h
          · have h := ite_F h q32
            refine sw_iconst X (v := 1) (by decide) dX5_behind_94 ?_
            refine sw_goto X 99 (by decide) dX5_behind_95 ?_
            refine sw_sub [0, 1, 2, 3, 5] rfl ?_
            exact J27 _ h
      · refine sw_icmp_eq X 88 (by decide) dX5_behind_63 (fun q33 => ?_) (fun q33 => ?_)
        · have h := ite_T h q33
          refine sw_sub [1, 2, 3, 4, 5, 6] rfl ?_
          exact J24 _ _ h
        · have h := ite_F h q33
          refine sw_aload_n X 1 rfl rfl dX5_behind_66 ?_
          refine sw_getR X sw_cl5 (show sw_kd 0 = 5 from rfl) (k := 4) rfl (by decide) (o1 := 15) rfl wf_X5_29 dX5_behind_67 ?_
          refine sw_iload X 0 rfl dX5_behind_70 ?_
          refine sw_iload_n X 3 rfl rfl dX5_behind_72 ?_
          refine sw_iload X 4 rfl dX5_behind_73 ?_
          obtain ⟨r35, c34, h⟩ := bo_E h
          refine sw_callVI X (o := 15) (As := (fun g => [.int x20, .int x7, .int x8])) sw_cl4 (show sw_kd 15 = 4 from rfl) ws_X4_woundBy (by omega) (c_X4_woundBy F (show sw_kd 15 = 4 from rfl) x20 x7 x8 s3 c34) rfl rfl (Nat.le_of_ble_eq_true rfl) wm_X5_200 dX5_behind_75 ?_
          refine sw_istore_n X [(3, .int r35), (7, .int x20), (0, .ref (g.1 0)), (1, .int a1), (4, .int x8), (5, .int x9), (6, .int x10)] rfl (by decide) rfl dX5_behind_78 ?_
          refine sw_iload X 4 rfl dX5_behind_79 ?_
          refine sw_iconst X (v := 1) (by decide) dX5_behind_81 ?_
          refine sw_iload X 1 rfl dX5_behind_82 ?_
          refine sw_ishl X dX5_behind_84 ?_
          refine sw_ior X dX5_behind_85 ?_
          refine sw_topi (fun x36 ex36 => ?_)
          have h := nm_E h ex36
          refine sw_istore X [(4, .int x36), (3, .int r35), (7, .int x20), (0, .ref (g.1 0)), (1, .int a1), (5, .int x9), (6, .int x10)] (by decide) rfl dX5_behind_86 ?_
          refine sw_sub [3, 4, 1, 0, 5, 6] rfl ?_
          exact J24 _ _ h
  · have h := ite_F h q4
    refine sw_iload_n X 0 rfl rfl dX5_behind_12 ?_
    exact sw_iret X hr hlk dX5_behind_13 h
theorem dX5_isStrike_0 : decode cX5_isStrike 0 = .ok (.iload_n 0, 1) := by decide +kernel
theorem dX5_isStrike_1 : decode cX5_isStrike 1 = .ok (.ifCond .lt 13, 3) := by decide +kernel
theorem dX5_isStrike_4 : decode cX5_isStrike 4 = .ok (.iload_n 0, 1) := by decide +kernel
theorem dX5_isStrike_5 : decode cX5_isStrike 5 = .ok (.bipush 10, 2) := by decide +kernel
theorem dX5_isStrike_7 : decode cX5_isStrike 7 = .ok (.if_icmp .gt 7, 3) := by decide +kernel
theorem dX5_isStrike_10 : decode cX5_isStrike 10 = .ok (.iconst 1, 1) := by decide +kernel
theorem dX5_isStrike_11 : decode cX5_isStrike 11 = .ok (.goto 4, 3) := by decide +kernel
theorem dX5_isStrike_14 : decode cX5_isStrike 14 = .ok (.iconst 0, 1) := by decide +kernel
theorem dX5_isStrike_15 : decode cX5_isStrike 15 = .ok (.ireturn, 1) := by decide +kernel
def j_X5_isStrike (F : Nat) (a1 : Int32) (st : sw_St) : Option Int32 :=
jn (fun (x1 : Int32) => 
  grd (x1 = 0 ∨ x1 = 1) (some (x1 : Int32))) (fun k2 =>
 jn (
   k2 0) (fun k5 =>
  (if a1 < 0 then (
   k5)
  else (
   (if 10 < a1 then (
    k5)
   else (
    k2 1))))))
set_option maxHeartbeats 4000000 in
set_option maxRecDepth 100000 in
theorem c_X5_isStrike (F : Nat) (a1 : Int32) (st : sw_St) {r : Int32} (h : j_X5_isStrike F a1 st = some r) : sw_CI yX5_isStrike (.code yX5_isStrike cX5_isStrike 1 (some .boolean)) 1 (fun g => [.int a1]) st r st := by
  refine sw_entI RX5 (fun g => [(0, .int a1)]) (by decide) rfl (fun _ => Nat.le_of_ble_eq_true rfl) (fun _ => rfl) ?_
  intro p l e s m args below meth c g X hr hlk
  unfold j_X5_isStrike at h
  refine sw_iload_n X 0 rfl rfl dX5_isStrike_0 ?_
  refine jn1_E (fun (x1 : Int32) => sw_V p l e 1 s m args below meth c g (sw_A g s.heap.size) (sw_QI below g args s r st) 1 15 [] [.int x1] st) h (fun x1 h => ?_) (fun k2 J3 h => ?_)
  · obtain ⟨q4, h⟩ := grd_E h
    exact sw_zret X hr hlk q4 dX5_isStrike_15 (by cases h; rfl)
  · refine jn0_E (sw_V p l e 1 s m args below meth c g (sw_A g s.heap.size) (sw_QI below g args s r st) 1 14 [] [] st) h (fun h => ?_) (fun k5 J6 h => ?_)
    · refine sw_iconst X (v := 0) (by decide) dX5_isStrike_14 ?_
      exact J3 _ h
    · refine sw_if_lt X 14 (by decide) dX5_isStrike_1 (fun q7 => ?_) (fun q7 => ?_)
      · have h := ite_T h q7
        refine sw_sub [] rfl ?_
        exact J6  h
      · have h := ite_F h q7
        refine sw_iload_n X 0 rfl rfl dX5_isStrike_4 ?_
        refine sw_bipush X (v := 10) (by decide) dX5_isStrike_5 ?_
        refine sw_icmp_gt X 14 (by decide) dX5_isStrike_7 (fun q8 => ?_) (fun q8 => ?_)
        · have h := ite_T h q8
          refine sw_sub [] rfl ?_
          exact J6  h
        · have h := ite_F h q8
          refine sw_iconst X (v := 1) (by decide) dX5_isStrike_10 ?_
          refine sw_goto X 15 (by decide) dX5_isStrike_11 ?_
          refine sw_sub [] rfl ?_
          exact J3 _ h
theorem dX5_fits_0 : decode cX5_fits 0 = .ok (.iload_n 1, 1) := by decide +kernel
theorem dX5_fits_1 : decode cX5_fits 1 = .ok (.invokestatic 262, 3) := by decide +kernel
theorem dX5_fits_4 : decode cX5_fits 4 = .ok (.ifCond .ne 5, 3) := by decide +kernel
theorem dX5_fits_7 : decode cX5_fits 7 = .ok (.iconst (-1), 1) := by decide +kernel
theorem dX5_fits_8 : decode cX5_fits 8 = .ok (.ireturn, 1) := by decide +kernel
theorem dX5_fits_9 : decode cX5_fits 9 = .ok (.aload_n 0, 1) := by decide +kernel
theorem dX5_fits_10 : decode cX5_fits 10 = .ok (.getfield 29, 3) := by decide +kernel
theorem dX5_fits_13 : decode cX5_fits 13 = .ok (.getfield 134, 3) := by decide +kernel
theorem dX5_fits_16 : decode cX5_fits 16 = .ok (.ifCond .ne 6, 3) := by decide +kernel
theorem dX5_fits_19 : decode cX5_fits 19 = .ok (.bipush (-4), 2) := by decide +kernel
theorem dX5_fits_21 : decode cX5_fits 21 = .ok (.ireturn, 1) := by decide +kernel
theorem dX5_fits_22 : decode cX5_fits 22 = .ok (.aload_n 0, 1) := by decide +kernel
theorem dX5_fits_23 : decode cX5_fits 23 = .ok (.getfield 68, 3) := by decide +kernel
theorem dX5_fits_26 : decode cX5_fits 26 = .ok (.aload_n 0, 1) := by decide +kernel
theorem dX5_fits_27 : decode cX5_fits 27 = .ok (.getfield 29, 3) := by decide +kernel
theorem dX5_fits_30 : decode cX5_fits 30 = .ok (.iload_n 1, 1) := by decide +kernel
theorem dX5_fits_31 : decode cX5_fits 31 = .ok (.invokevirtual 265, 3) := by decide +kernel
theorem dX5_fits_34 : decode cX5_fits 34 = .ok (.aload_n 0, 1) := by decide +kernel
theorem dX5_fits_35 : decode cX5_fits 35 = .ok (.aload_n 0, 1) := by decide +kernel
theorem dX5_fits_36 : decode cX5_fits 36 = .ok (.getfield 68, 3) := by decide +kernel
theorem dX5_fits_39 : decode cX5_fits 39 = .ok (.getfield 268, 3) := by decide +kernel
theorem dX5_fits_42 : decode cX5_fits 42 = .ok (.i2l, 1) := by decide +kernel
theorem dX5_fits_43 : decode cX5_fits 43 = .ok (.lconst 1, 1) := by decide +kernel
theorem dX5_fits_44 : decode cX5_fits 44 = .ok (.invokevirtual 242, 3) := by decide +kernel
theorem dX5_fits_47 : decode cX5_fits 47 = .ok (.aload_n 0, 1) := by decide +kernel
theorem dX5_fits_48 : decode cX5_fits 48 = .ok (.aload_n 0, 1) := by decide +kernel
theorem dX5_fits_49 : decode cX5_fits 49 = .ok (.getfield 68, 3) := by decide +kernel
theorem dX5_fits_52 : decode cX5_fits 52 = .ok (.getfield 270, 3) := by decide +kernel
theorem dX5_fits_55 : decode cX5_fits 55 = .ok (.putfield 79, 3) := by decide +kernel
theorem dX5_fits_58 : decode cX5_fits 58 = .ok (.iconst 1, 1) := by decide +kernel
theorem dX5_fits_59 : decode cX5_fits 59 = .ok (.ireturn, 1) := by decide +kernel
def j_X5_fits (F : Nat) (a1 : Int32) (st : sw_St) : Option (Int32 × sw_St) :=
bo (j_X5_isStrike F a1 st) (fun (r2 : Int32) =>
(if r2 = 0 then (
 some (((-1) : Int32), st))
else (
 (if (st.1 15 0) = 0 then (
  some (((-4) : Int32), st))
 else (
  bd (j_X0_search F a1 st) (fun (_ : Unit) (s6 : sw_St) =>
  bd (j_X5_tell F (((s6.1 60 0) : Int32).toInt64) 1 s6) (fun (_ : Unit) (s8 : sw_St) =>
  nm (sw_setC s8 0 14 (s8.1 60 1)) (fun (s9 : sw_St) =>
  some ((1 : Int32), s9)))))))))
set_option maxHeartbeats 4000000 in
set_option maxRecDepth 100000 in
theorem c_X5_fits (F : Nat) (a1 : Int32) (st : sw_St) {r : Int32} {st1 : sw_St} (h : j_X5_fits F a1 st = some (r, st1)) : sw_CI yX5_fits (.code yX5_fits cX5_fits 2 (some .int)) 7 (fun g => [.ref (g.1 0), .int a1]) st r st1 := by
  refine sw_entI RX5 (fun g => [(0, .ref (g.1 0)), (1, .int a1)]) (by decide) rfl (fun _ => Nat.le_of_ble_eq_true rfl) (fun _ => rfl) ?_
  intro p l e s m args below meth c g X hr hlk
  unfold j_X5_fits at h
  refine sw_iload_n X 1 rfl rfl dX5_fits_0 ?_
  obtain ⟨r2, c1, h⟩ := bo_E h
  refine sw_callSI X (As := (fun g => [.int a1])) ws_X5_isStrike (by omega) (c_X5_isStrike F a1 st c1) rfl rfl (Nat.le_of_ble_eq_true rfl) wm_X5_262 dX5_fits_1 ?_
  refine sw_if_ne X 9 (by decide) dX5_fits_4 (fun q3 => ?_) (fun q3 => ?_)
  · have h := ite_F h q3
    refine sw_aload_n X 0 rfl rfl dX5_fits_9 ?_
    refine sw_getR X sw_cl5 (show sw_kd 0 = 5 from rfl) (k := 4) rfl (by decide) (o1 := 15) rfl wf_X5_29 dX5_fits_10 ?_
    refine sw_getI X sw_cl4 (show sw_kd 15 = 4 from rfl) (k := 0) rfl (by decide) wf_X5_134 dX5_fits_13 ?_
    refine sw_if_ne X 22 (by decide) dX5_fits_16 (fun q4 => ?_) (fun q4 => ?_)
    · have h := ite_F h q4
      refine sw_aload_n X 0 rfl rfl dX5_fits_22 ?_
      refine sw_getR X sw_cl5 (show sw_kd 0 = 5 from rfl) (k := 11) rfl (by decide) (o1 := 60) rfl wf_X5_68 dX5_fits_23 ?_
      refine sw_aload_n X 0 rfl rfl dX5_fits_26 ?_
      refine sw_getR X sw_cl5 (show sw_kd 0 = 5 from rfl) (k := 4) rfl (by decide) (o1 := 15) rfl wf_X5_29 dX5_fits_27 ?_
      refine sw_iload_n X 1 rfl rfl dX5_fits_30 ?_
      obtain ⟨u11, s6, c5, h⟩ := bd_E h
      refine sw_callVV X (o := 60) (As := (fun g => [.ref (g.1 15), .int a1])) sw_cl0 (show sw_kd 60 = 0 from rfl) ws_X0_search (by omega) (c_X0_search F a1 st c5) rfl rfl (Nat.le_of_ble_eq_true rfl) wm_X5_265 dX5_fits_31 ?_
      refine sw_aload_n X 0 rfl rfl dX5_fits_34 ?_
      refine sw_aload_n X 0 rfl rfl dX5_fits_35 ?_
      refine sw_getR X sw_cl5 (show sw_kd 0 = 5 from rfl) (k := 11) rfl (by decide) (o1 := 60) rfl wf_X5_68 dX5_fits_36 ?_
      refine sw_getI X sw_cl0 (show sw_kd 60 = 0 from rfl) (k := 0) rfl (by decide) wf_X5_268 dX5_fits_39 ?_
      refine sw_i2l X dX5_fits_42 ?_
      refine sw_lconst X (v := 1) (by decide) dX5_fits_43 ?_
      obtain ⟨u10, s8, c7, h⟩ := bd_E h
      refine sw_callVV X (o := 0) (As := (fun g => [.long (((s6.1 60 0) : Int32).toInt64), .long 1])) sw_cl5 (show sw_kd 0 = 5 from rfl) ws_X5_tell (by omega) (c_X5_tell F (((s6.1 60 0) : Int32).toInt64) 1 s6 c7) rfl rfl (Nat.le_of_ble_eq_true rfl) wm_X5_242 dX5_fits_44 ?_
      refine sw_aload_n X 0 rfl rfl dX5_fits_47 ?_
      refine sw_aload_n X 0 rfl rfl dX5_fits_48 ?_
      refine sw_getR X sw_cl5 (show sw_kd 0 = 5 from rfl) (k := 11) rfl (by decide) (o1 := 60) rfl wf_X5_68 dX5_fits_49 ?_
      refine sw_getI X sw_cl0 (show sw_kd 60 = 0 from rfl) (k := 1) rfl (by decide) wf_X5_270 dX5_fits_52 ?_
      refine sw_putI X sw_cl5 (show sw_kd 0 = 5 from rfl) (k := 14) rfl (by decide) rfl rfl wf_X5_79 dX5_fits_55 (fun s9 es9 => ?_)
      have h := nm_E h es9
      refine sw_iconst X (v := 1) (by decide) dX5_fits_58 ?_
      exact sw_iret X hr hlk dX5_fits_59 h
    · have h := ite_T h q4
      refine sw_bipush X (v := (-4)) (by decide) dX5_fits_19 ?_
      exact sw_iret X hr hlk dX5_fits_21 h
  · have h := ite_T h q3
    refine sw_iconst X (v := (-1)) (by decide) dX5_fits_7 ?_
    exact sw_iret X hr hlk dX5_fits_8 h
theorem dX5_refusedBeard_0 : decode cX5_refusedBeard 0 = .ok (.iload_n 1, 1) := by decide +kernel
theorem dX5_refusedBeard_1 : decode cX5_refusedBeard 1 = .ok (.invokestatic 262, 3) := by decide +kernel
theorem dX5_refusedBeard_4 : decode cX5_refusedBeard 4 = .ok (.ifCond .ne 5, 3) := by decide +kernel
theorem dX5_refusedBeard_7 : decode cX5_refusedBeard 7 = .ok (.iconst (-1), 1) := by decide +kernel
theorem dX5_refusedBeard_8 : decode cX5_refusedBeard 8 = .ok (.ireturn, 1) := by decide +kernel
theorem dX5_refusedBeard_9 : decode cX5_refusedBeard 9 = .ok (.aload_n 0, 1) := by decide +kernel
theorem dX5_refusedBeard_10 : decode cX5_refusedBeard 10 = .ok (.getfield 29, 3) := by decide +kernel
theorem dX5_refusedBeard_13 : decode cX5_refusedBeard 13 = .ok (.getfield 134, 3) := by decide +kernel
theorem dX5_refusedBeard_16 : decode cX5_refusedBeard 16 = .ok (.ifCond .ne 6, 3) := by decide +kernel
theorem dX5_refusedBeard_19 : decode cX5_refusedBeard 19 = .ok (.bipush (-4), 2) := by decide +kernel
theorem dX5_refusedBeard_21 : decode cX5_refusedBeard 21 = .ok (.ireturn, 1) := by decide +kernel
theorem dX5_refusedBeard_22 : decode cX5_refusedBeard 22 = .ok (.aload_n 0, 1) := by decide +kernel
theorem dX5_refusedBeard_23 : decode cX5_refusedBeard 23 = .ok (.getfield 68, 3) := by decide +kernel
theorem dX5_refusedBeard_26 : decode cX5_refusedBeard 26 = .ok (.aload_n 0, 1) := by decide +kernel
theorem dX5_refusedBeard_27 : decode cX5_refusedBeard 27 = .ok (.getfield 29, 3) := by decide +kernel
theorem dX5_refusedBeard_30 : decode cX5_refusedBeard 30 = .ok (.iload_n 1, 1) := by decide +kernel
theorem dX5_refusedBeard_31 : decode cX5_refusedBeard 31 = .ok (.invokevirtual 265, 3) := by decide +kernel
theorem dX5_refusedBeard_34 : decode cX5_refusedBeard 34 = .ok (.aload_n 0, 1) := by decide +kernel
theorem dX5_refusedBeard_35 : decode cX5_refusedBeard 35 = .ok (.getfield 68, 3) := by decide +kernel
theorem dX5_refusedBeard_38 : decode cX5_refusedBeard 38 = .ok (.getfield 268, 3) := by decide +kernel
theorem dX5_refusedBeard_41 : decode cX5_refusedBeard 41 = .ok (.ifCond .ne 11, 3) := by decide +kernel
theorem dX5_refusedBeard_44 : decode cX5_refusedBeard 44 = .ok (.aload_n 0, 1) := by decide +kernel
theorem dX5_refusedBeard_45 : decode cX5_refusedBeard 45 = .ok (.iconst 4, 1) := by decide +kernel
theorem dX5_refusedBeard_46 : decode cX5_refusedBeard 46 = .ok (.invokevirtual 99, 3) := by decide +kernel
theorem dX5_refusedBeard_49 : decode cX5_refusedBeard 49 = .ok (.goto 4, 3) := by decide +kernel
theorem dX5_refusedBeard_52 : decode cX5_refusedBeard 52 = .ok (.iconst 0, 1) := by decide +kernel
theorem dX5_refusedBeard_53 : decode cX5_refusedBeard 53 = .ok (.ireturn, 1) := by decide +kernel
def j_X5_refusedBeard (F : Nat) (a1 : Int32) (st : sw_St) : Option (Int32 × sw_St) :=
bo (j_X5_isStrike F a1 st) (fun (r2 : Int32) =>
(if r2 = 0 then (
 some (((-1) : Int32), st))
else (
 (if (st.1 15 0) = 0 then (
  some (((-4) : Int32), st))
 else (
  bd (j_X0_search F a1 st) (fun (_ : Unit) (s6 : sw_St) =>
  jn (fun (x7 : Int32) (s8 : sw_St) => 
    some ((x7 : Int32), s8)) (fun k9 =>
   (if (s6.1 60 0) = 0 then (
    bd (j_X5_found F 4 s6) (fun (r13 : Int32) (s14 : sw_St) =>
    k9 r13 s14))
   else (
    k9 0 s6)))))))))
set_option maxHeartbeats 4000000 in
set_option maxRecDepth 100000 in
theorem c_X5_refusedBeard (F : Nat) (a1 : Int32) (st : sw_St) {r : Int32} {st1 : sw_St} (h : j_X5_refusedBeard F a1 st = some (r, st1)) : sw_CI yX5_refusedBeard (.code yX5_refusedBeard cX5_refusedBeard 2 (some .int)) 7 (fun g => [.ref (g.1 0), .int a1]) st r st1 := by
  refine sw_entI RX5 (fun g => [(0, .ref (g.1 0)), (1, .int a1)]) (by decide) rfl (fun _ => Nat.le_of_ble_eq_true rfl) (fun _ => rfl) ?_
  intro p l e s m args below meth c g X hr hlk
  unfold j_X5_refusedBeard at h
  refine sw_iload_n X 1 rfl rfl dX5_refusedBeard_0 ?_
  obtain ⟨r2, c1, h⟩ := bo_E h
  refine sw_callSI X (As := (fun g => [.int a1])) ws_X5_isStrike (by omega) (c_X5_isStrike F a1 st c1) rfl rfl (Nat.le_of_ble_eq_true rfl) wm_X5_262 dX5_refusedBeard_1 ?_
  refine sw_if_ne X 9 (by decide) dX5_refusedBeard_4 (fun q3 => ?_) (fun q3 => ?_)
  · have h := ite_F h q3
    refine sw_aload_n X 0 rfl rfl dX5_refusedBeard_9 ?_
    refine sw_getR X sw_cl5 (show sw_kd 0 = 5 from rfl) (k := 4) rfl (by decide) (o1 := 15) rfl wf_X5_29 dX5_refusedBeard_10 ?_
    refine sw_getI X sw_cl4 (show sw_kd 15 = 4 from rfl) (k := 0) rfl (by decide) wf_X5_134 dX5_refusedBeard_13 ?_
    refine sw_if_ne X 22 (by decide) dX5_refusedBeard_16 (fun q4 => ?_) (fun q4 => ?_)
    · have h := ite_F h q4
      refine sw_aload_n X 0 rfl rfl dX5_refusedBeard_22 ?_
      refine sw_getR X sw_cl5 (show sw_kd 0 = 5 from rfl) (k := 11) rfl (by decide) (o1 := 60) rfl wf_X5_68 dX5_refusedBeard_23 ?_
      refine sw_aload_n X 0 rfl rfl dX5_refusedBeard_26 ?_
      refine sw_getR X sw_cl5 (show sw_kd 0 = 5 from rfl) (k := 4) rfl (by decide) (o1 := 15) rfl wf_X5_29 dX5_refusedBeard_27 ?_
      refine sw_iload_n X 1 rfl rfl dX5_refusedBeard_30 ?_
      obtain ⟨u15, s6, c5, h⟩ := bd_E h
      refine sw_callVV X (o := 60) (As := (fun g => [.ref (g.1 15), .int a1])) sw_cl0 (show sw_kd 60 = 0 from rfl) ws_X0_search (by omega) (c_X0_search F a1 st c5) rfl rfl (Nat.le_of_ble_eq_true rfl) wm_X5_265 dX5_refusedBeard_31 ?_
      refine sw_aload_n X 0 rfl rfl dX5_refusedBeard_34 ?_
      refine sw_getR X sw_cl5 (show sw_kd 0 = 5 from rfl) (k := 11) rfl (by decide) (o1 := 60) rfl wf_X5_68 dX5_refusedBeard_35 ?_
      refine sw_getI X sw_cl0 (show sw_kd 60 = 0 from rfl) (k := 0) rfl (by decide) wf_X5_268 dX5_refusedBeard_38 ?_
      refine jn2_E (fun (x7 : Int32) (s8 : sw_St) => sw_V p l e 7 s m args below meth c g (sw_A g s.heap.size) (sw_QI below g args s r st1) 2 53 [] [.int x7] s8) h (fun x7 s8 h => ?_) (fun k9 J10 h => ?_)
      · exact sw_iret X hr hlk dX5_refusedBeard_53 h
      · refine sw_if_ne X 52 (by decide) dX5_refusedBeard_41 (fun q11 => ?_) (fun q11 => ?_)
        · have h := ite_F h q11
          refine sw_iconst X (v := 0) (by decide) dX5_refusedBeard_52 ?_
          refine sw_sub [] rfl ?_
          exact J10 _ _ h
        · have h := ite_T h q11
          refine sw_aload_n X 0 rfl rfl dX5_refusedBeard_44 ?_
          refine sw_iconst X (v := 4) (by decide) dX5_refusedBeard_45 ?_
          obtain ⟨r13, s14, c12, h⟩ := bd_E h
          refine sw_callVI X (o := 0) (As := (fun g => [.int 4])) sw_cl5 (show sw_kd 0 = 5 from rfl) ws_X5_found (by omega) (c_X5_found F 4 s6 c12) rfl rfl (Nat.le_of_ble_eq_true rfl) wm_X5_99 dX5_refusedBeard_46 ?_
          refine sw_goto X 53 (by decide) dX5_refusedBeard_49 ?_
          refine sw_sub [] rfl ?_
          exact J10 _ _ h
    · have h := ite_T h q4
      refine sw_bipush X (v := (-4)) (by decide) dX5_refusedBeard_19 ?_
      exact sw_iret X hr hlk dX5_refusedBeard_21 h
  · have h := ite_T h q3
    refine sw_iconst X (v := (-1)) (by decide) dX5_refusedBeard_7 ?_
    exact sw_iret X hr hlk dX5_refusedBeard_8 h
theorem dX5_sure_0 : decode cX5_sure 0 = .ok (.aload_n 0, 1) := by decide +kernel
theorem dX5_sure_1 : decode cX5_sure 1 = .ok (.iload_n 1, 1) := by decide +kernel
theorem dX5_sure_2 : decode cX5_sure 2 = .ok (.invokevirtual 273, 3) := by decide +kernel
theorem dX5_sure_5 : decode cX5_sure 5 = .ok (.istore_n 2, 1) := by decide +kernel
theorem dX5_sure_6 : decode cX5_sure 6 = .ok (.iload_n 2, 1) := by decide +kernel
theorem dX5_sure_7 : decode cX5_sure 7 = .ok (.ifCond .eq 5, 3) := by decide +kernel
theorem dX5_sure_10 : decode cX5_sure 10 = .ok (.iload_n 2, 1) := by decide +kernel
theorem dX5_sure_11 : decode cX5_sure 11 = .ok (.ireturn, 1) := by decide +kernel
theorem dX5_sure_12 : decode cX5_sure 12 = .ok (.aload_n 0, 1) := by decide +kernel
theorem dX5_sure_13 : decode cX5_sure 13 = .ok (.aload_n 0, 1) := by decide +kernel
theorem dX5_sure_14 : decode cX5_sure 14 = .ok (.getfield 29, 3) := by decide +kernel
theorem dX5_sure_17 : decode cX5_sure 17 = .ok (.invokevirtual 276, 3) := by decide +kernel
theorem dX5_sure_20 : decode cX5_sure 20 = .ok (.aload_n 0, 1) := by decide +kernel
theorem dX5_sure_21 : decode cX5_sure 21 = .ok (.getfield 68, 3) := by decide +kernel
theorem dX5_sure_24 : decode cX5_sure 24 = .ok (.getfield 279, 3) := by decide +kernel
theorem dX5_sure_27 : decode cX5_sure 27 = .ok (.iconst (-1), 1) := by decide +kernel
theorem dX5_sure_28 : decode cX5_sure 28 = .ok (.ixor, 1) := by decide +kernel
theorem dX5_sure_29 : decode cX5_sure 29 = .ok (.iand, 1) := by decide +kernel
theorem dX5_sure_30 : decode cX5_sure 30 = .ok (.putfield 79, 3) := by decide +kernel
theorem dX5_sure_33 : decode cX5_sure 33 = .ok (.aload_n 0, 1) := by decide +kernel
theorem dX5_sure_34 : decode cX5_sure 34 = .ok (.getfield 68, 3) := by decide +kernel
theorem dX5_sure_37 : decode cX5_sure 37 = .ok (.getfield 282, 3) := by decide +kernel
theorem dX5_sure_40 : decode cX5_sure 40 = .ok (.ireturn, 1) := by decide +kernel
def j_X5_sure (F : Nat) (a1 : Int32) (st : sw_St) : Option (Int32 × sw_St) :=
bd (j_X5_refusedBeard F a1 st) (fun (r2 : Int32) (s3 : sw_St) =>
(if r2 = 0 then (
 bo (j_X4_notIn F 15 s3) (fun (r6 : Int32) =>
 nm (sw_setC s3 0 14 (r6 &&& ((s3.1 60 3) ^^^ (-1)))) (fun (s7 : sw_St) =>
 some ((s7.1 60 2 : Int32), s7))))
else (
 some ((r2 : Int32), s3))))
set_option maxHeartbeats 4000000 in
set_option maxRecDepth 100000 in
theorem c_X5_sure (F : Nat) (a1 : Int32) (st : sw_St) {r : Int32} {st1 : sw_St} (h : j_X5_sure F a1 st = some (r, st1)) : sw_CI yX5_sure (.code yX5_sure cX5_sure 3 (some .int)) 8 (fun g => [.ref (g.1 0), .int a1]) st r st1 := by
  refine sw_entI RX5 (fun g => [(0, .ref (g.1 0)), (1, .int a1)]) (by decide) rfl (fun _ => Nat.le_of_ble_eq_true rfl) (fun _ => rfl) ?_
  intro p l e s m args below meth c g X hr hlk
  unfold j_X5_sure at h
  refine sw_aload_n X 0 rfl rfl dX5_sure_0 ?_
  refine sw_iload_n X 1 rfl rfl dX5_sure_1 ?_
  obtain ⟨r2, s3, c1, h⟩ := bd_E h
  refine sw_callVI X (o := 0) (As := (fun g => [.int a1])) sw_cl5 (show sw_kd 0 = 5 from rfl) ws_X5_refusedBeard (by omega) (c_X5_refusedBeard F a1 st c1) rfl rfl (Nat.le_of_ble_eq_true rfl) wm_X5_273 dX5_sure_2 ?_
  refine sw_istore_n X [(2, .int r2), (0, .ref (g.1 0)), (1, .int a1)] rfl (by decide) rfl dX5_sure_5 ?_
  refine sw_iload_n X 0 rfl rfl dX5_sure_6 ?_
  refine sw_if_eq X 12 (by decide) dX5_sure_7 (fun q4 => ?_) (fun q4 => ?_)
  · have h := ite_T h q4
    refine sw_aload_n X 1 rfl rfl dX5_sure_12 ?_
    refine sw_aload_n X 1 rfl rfl dX5_sure_13 ?_
    refine sw_getR X sw_cl5 (show sw_kd 0 = 5 from rfl) (k := 4) rfl (by decide) (o1 := 15) rfl wf_X5_29 dX5_sure_14 ?_
    obtain ⟨r6, c5, h⟩ := bo_E h
    refine sw_callVI X (o := 15) (As := (fun g => [])) sw_cl4 (show sw_kd 15 = 4 from rfl) ws_X4_notIn (by omega) (c_X4_notIn F (show sw_kd 15 = 4 from rfl) s3 c5) rfl rfl (Nat.le_of_ble_eq_true rfl) wm_X5_276 dX5_sure_17 ?_
    refine sw_aload_n X 1 rfl rfl dX5_sure_20 ?_
    refine sw_getR X sw_cl5 (show sw_kd 0 = 5 from rfl) (k := 11) rfl (by decide) (o1 := 60) rfl wf_X5_68 dX5_sure_21 ?_
    refine sw_getI X sw_cl0 (show sw_kd 60 = 0 from rfl) (k := 3) rfl (by decide) wf_X5_279 dX5_sure_24 ?_
    refine sw_iconst X (v := (-1)) (by decide) dX5_sure_27 ?_
    refine sw_ixor X dX5_sure_28 ?_
    refine sw_iand X dX5_sure_29 ?_
    refine sw_putI X sw_cl5 (show sw_kd 0 = 5 from rfl) (k := 14) rfl (by decide) rfl rfl wf_X5_79 dX5_sure_30 (fun s7 es7 => ?_)
    have h := nm_E h es7
    refine sw_aload_n X 1 rfl rfl dX5_sure_33 ?_
    refine sw_getR X sw_cl5 (show sw_kd 0 = 5 from rfl) (k := 11) rfl (by decide) (o1 := 60) rfl wf_X5_68 dX5_sure_34 ?_
    refine sw_getI X sw_cl0 (show sw_kd 60 = 0 from rfl) (k := 2) rfl (by decide) wf_X5_282 dX5_sure_37 ?_
    exact sw_iret X hr hlk dX5_sure_40 h
  · have h := ite_F h q4
    refine sw_iload_n X 0 rfl rfl dX5_sure_10 ?_
    exact sw_iret X hr hlk dX5_sure_11 h
theorem dX5_ask_0 : decode cX5_ask 0 = .ok (.aload_n 0, 1) := by decide +kernel
theorem dX5_ask_1 : decode cX5_ask 1 = .ok (.iload_n 1, 1) := by decide +kernel
theorem dX5_ask_2 : decode cX5_ask 2 = .ok (.invokevirtual 273, 3) := by decide +kernel
theorem dX5_ask_5 : decode cX5_ask 5 = .ok (.istore_n 2, 1) := by decide +kernel
theorem dX5_ask_6 : decode cX5_ask 6 = .ok (.iload_n 2, 1) := by decide +kernel
theorem dX5_ask_7 : decode cX5_ask 7 = .ok (.ifCond .eq 5, 3) := by decide +kernel
theorem dX5_ask_10 : decode cX5_ask 10 = .ok (.iload_n 2, 1) := by decide +kernel
theorem dX5_ask_11 : decode cX5_ask 11 = .ok (.ireturn, 1) := by decide +kernel
theorem dX5_ask_12 : decode cX5_ask 12 = .ok (.bipush (-9), 2) := by decide +kernel
theorem dX5_ask_14 : decode cX5_ask 14 = .ok (.istore_n 3, 1) := by decide +kernel
theorem dX5_ask_15 : decode cX5_ask 15 = .ok (.iconst 0, 1) := by decide +kernel
theorem dX5_ask_16 : decode cX5_ask 16 = .ok (.istore 4, 2) := by decide +kernel
theorem dX5_ask_18 : decode cX5_ask 18 = .ok (.iconst 0, 1) := by decide +kernel
theorem dX5_ask_19 : decode cX5_ask 19 = .ok (.istore 5, 2) := by decide +kernel
theorem dX5_ask_21 : decode cX5_ask 21 = .ok (.iload 5, 2) := by decide +kernel
theorem dX5_ask_23 : decode cX5_ask 23 = .ok (.aload_n 0, 1) := by decide +kernel
theorem dX5_ask_24 : decode cX5_ask 24 = .ok (.getfield 29, 3) := by decide +kernel
theorem dX5_ask_27 : decode cX5_ask 27 = .ok (.getfield 134, 3) := by decide +kernel
theorem dX5_ask_30 : decode cX5_ask 30 = .ok (.if_icmp .ge 70, 3) := by decide +kernel
theorem dX5_ask_33 : decode cX5_ask 33 = .ok (.aload_n 0, 1) := by decide +kernel
theorem dX5_ask_34 : decode cX5_ask 34 = .ok (.getfield 68, 3) := by decide +kernel
theorem dX5_ask_37 : decode cX5_ask 37 = .ok (.getfield 285, 3) := by decide +kernel
theorem dX5_ask_40 : decode cX5_ask 40 = .ok (.iload 5, 2) := by decide +kernel
theorem dX5_ask_42 : decode cX5_ask 42 = .ok (.iaload, 1) := by decide +kernel
theorem dX5_ask_43 : decode cX5_ask 43 = .ok (.istore 6, 2) := by decide +kernel
theorem dX5_ask_45 : decode cX5_ask 45 = .ok (.iload 6, 2) := by decide +kernel
theorem dX5_ask_47 : decode cX5_ask 47 = .ok (.aload_n 0, 1) := by decide +kernel
theorem dX5_ask_48 : decode cX5_ask 48 = .ok (.getfield 68, 3) := by decide +kernel
theorem dX5_ask_51 : decode cX5_ask 51 = .ok (.getfield 268, 3) := by decide +kernel
theorem dX5_ask_54 : decode cX5_ask 54 = .ok (.iload 6, 2) := by decide +kernel
theorem dX5_ask_56 : decode cX5_ask 56 = .ok (.isub, 1) := by decide +kernel
theorem dX5_ask_57 : decode cX5_ask 57 = .ok (.invokestatic 288, 3) := by decide +kernel
theorem dX5_ask_60 : decode cX5_ask 60 = .ok (.istore 7, 2) := by decide +kernel
theorem dX5_ask_62 : decode cX5_ask 62 = .ok (.aload_n 0, 1) := by decide +kernel
theorem dX5_ask_63 : decode cX5_ask 63 = .ok (.getfield 29, 3) := by decide +kernel
theorem dX5_ask_66 : decode cX5_ask 66 = .ok (.iload 5, 2) := by decide +kernel
theorem dX5_ask_68 : decode cX5_ask 68 = .ok (.invokevirtual 156, 3) := by decide +kernel
theorem dX5_ask_71 : decode cX5_ask 71 = .ok (.ifCond .ne 23, 3) := by decide +kernel
theorem dX5_ask_74 : decode cX5_ask 74 = .ok (.iload_n 3, 1) := by decide +kernel
theorem dX5_ask_75 : decode cX5_ask 75 = .ok (.bipush (-9), 2) := by decide +kernel
theorem dX5_ask_77 : decode cX5_ask 77 = .ok (.if_icmp .eq 10, 3) := by decide +kernel
theorem dX5_ask_80 : decode cX5_ask 80 = .ok (.iload 7, 2) := by decide +kernel
theorem dX5_ask_82 : decode cX5_ask 82 = .ok (.iload 4, 2) := by decide +kernel
theorem dX5_ask_84 : decode cX5_ask 84 = .ok (.if_icmp .ge 10, 3) := by decide +kernel
theorem dX5_ask_87 : decode cX5_ask 87 = .ok (.iload 5, 2) := by decide +kernel
theorem dX5_ask_89 : decode cX5_ask 89 = .ok (.istore_n 3, 1) := by decide +kernel
theorem dX5_ask_90 : decode cX5_ask 90 = .ok (.iload 7, 2) := by decide +kernel
theorem dX5_ask_92 : decode cX5_ask 92 = .ok (.istore 4, 2) := by decide +kernel
theorem dX5_ask_94 : decode cX5_ask 94 = .ok (.iinc 5 1, 3) := by decide +kernel
theorem dX5_ask_97 : decode cX5_ask 97 = .ok (.goto (-76), 3) := by decide +kernel
theorem dX5_ask_100 : decode cX5_ask 100 = .ok (.iload_n 3, 1) := by decide +kernel
theorem dX5_ask_101 : decode cX5_ask 101 = .ok (.bipush (-9), 2) := by decide +kernel
theorem dX5_ask_103 : decode cX5_ask 103 = .ok (.if_icmp .eq 9, 3) := by decide +kernel
theorem dX5_ask_106 : decode cX5_ask 106 = .ok (.aload_n 0, 1) := by decide +kernel
theorem dX5_ask_107 : decode cX5_ask 107 = .ok (.iload 4, 2) := by decide +kernel
theorem dX5_ask_109 : decode cX5_ask 109 = .ok (.putfield 79, 3) := by decide +kernel
theorem dX5_ask_112 : decode cX5_ask 112 = .ok (.iload_n 3, 1) := by decide +kernel
theorem dX5_ask_113 : decode cX5_ask 113 = .ok (.ireturn, 1) := by decide +kernel
def j_X5_ask (F : Nat) (a1 : Int32) (st : sw_St) : Option (Int32 × sw_St) :=
bd (j_X5_refusedBeard F a1 st) (fun (r2 : Int32) (s3 : sw_St) =>
(if r2 = 0 then (
 lz3 (fun f8 (x5 : Int32) (x6 : Int32) (x7 : Int32) =>
  (if (s3.1 15 0) ≤ x7 then (
   jn (fun (s11 : sw_St) => 
     some ((x5 : Int32), s11)) (fun k12 =>
    (if x5 = (-9) then (
     k12 s3)
    else (
     nm (sw_setC s3 0 14 x6) (fun (s15 : sw_St) =>
     k12 s15)))))
  else (
   bnd x7 6 (
   nm (s3.1 61 (x7 : Int32).toNatClampNeg) (fun (x17 : Int32) =>
   nm (if x17 < ((s3.1 60 0) - x17) then ((s3.1 60 0) - x17) else x17) (fun (x18 : Int32) =>
   bo (j_X4_isIn F 15 x7 s3) (fun (r20 : Int32) =>
   jn (fun (x21 : Int32) (x22 : Int32) => 
     nm (x7 + 1) (fun (x25 : Int32) =>
     f8 x21 x22 x25)) (fun k23 =>
    (if r20 = 0 then (
     jn (
       k23 x7 x18) (fun k27 =>
      (if x5 = (-9) then (
       k27)
      else (
       (if x6 ≤ x18 then (
        k23 x5 x6)
       else (
        k27))))))
    else (
     k23 x5 x6)))))))))) F (-9) 0 0)
else (
 some ((r2 : Int32), s3))))
set_option maxHeartbeats 4000000 in
set_option maxRecDepth 100000 in
theorem c_X5_ask (F : Nat) (a1 : Int32) (st : sw_St) {r : Int32} {st1 : sw_St} (h : j_X5_ask F a1 st = some (r, st1)) : sw_CI yX5_ask (.code yX5_ask cX5_ask 8 (some .int)) 8 (fun g => [.ref (g.1 0), .int a1]) st r st1 := by
  refine sw_entI RX5 (fun g => [(0, .ref (g.1 0)), (1, .int a1)]) (by decide) rfl (fun _ => Nat.le_of_ble_eq_true rfl) (fun _ => rfl) ?_
  intro p l e s m args below meth c g X hr hlk
  unfold j_X5_ask at h
  refine sw_aload_n X 0 rfl rfl dX5_ask_0 ?_
  refine sw_iload_n X 1 rfl rfl dX5_ask_1 ?_
  obtain ⟨r2, s3, c1, h⟩ := bd_E h
  refine sw_callVI X (o := 0) (As := (fun g => [.int a1])) sw_cl5 (show sw_kd 0 = 5 from rfl) ws_X5_refusedBeard (by omega) (c_X5_refusedBeard F a1 st c1) rfl rfl (Nat.le_of_ble_eq_true rfl) wm_X5_273 dX5_ask_2 ?_
  refine sw_istore_n X [(2, .int r2), (0, .ref (g.1 0)), (1, .int a1)] rfl (by decide) rfl dX5_ask_5 ?_
  refine sw_iload_n X 0 rfl rfl dX5_ask_6 ?_
  refine sw_if_eq X 12 (by decide) dX5_ask_7 (fun q4 => ?_) (fun q4 => ?_)
  · have h := ite_T h q4
    refine sw_bipush X (v := (-9)) (by decide) dX5_ask_12 ?_
    refine sw_istore_n X [(3, .int (-9)), (2, .int r2), (0, .ref (g.1 0)), (1, .int a1)] rfl (by decide) rfl dX5_ask_14 ?_
    refine sw_iconst X (v := 0) (by decide) dX5_ask_15 ?_
    refine sw_istore X [(4, .int 0), (3, .int (-9)), (2, .int r2), (0, .ref (g.1 0)), (1, .int a1)] (by decide) rfl dX5_ask_16 ?_
    refine sw_iconst X (v := 0) (by decide) dX5_ask_18 ?_
    refine sw_istore X [(5, .int 0), (4, .int 0), (3, .int (-9)), (2, .int r2), (0, .ref (g.1 0)), (1, .int a1)] (by decide) rfl dX5_ask_19 ?_
    refine sw_sub [4, 2, 1, 0] rfl ?_
    refine lz3_E (fun (x5 : Int32) (x6 : Int32) (x7 : Int32) => sw_V p l e 8 s m args below meth c g (sw_A g s.heap.size) (sw_QI below g args s r st1) 8 21 [(0, .ref (g.1 0)), (3, .int x5), (4, .int x6), (5, .int x7)] [] s3) h (fun f8 ih9 x5 x6 x7 h => ?_)
    refine sw_iload X 3 rfl dX5_ask_21 ?_
    refine sw_aload_n X 0 rfl rfl dX5_ask_23 ?_
    refine sw_getR X sw_cl5 (show sw_kd 0 = 5 from rfl) (k := 4) rfl (by decide) (o1 := 15) rfl wf_X5_29 dX5_ask_24 ?_
    refine sw_getI X sw_cl4 (show sw_kd 15 = 4 from rfl) (k := 0) rfl (by decide) wf_X5_134 dX5_ask_27 ?_
    refine sw_icmp_ge X 100 (by decide) dX5_ask_30 (fun q10 => ?_) (fun q10 => ?_)
    · have h := ite_T h q10
      refine sw_iload_n X 1 rfl rfl dX5_ask_100 ?_
      refine sw_bipush X (v := (-9)) (by decide) dX5_ask_101 ?_
      refine jn1_E (fun (s11 : sw_St) => sw_V p l e 8 s m args below meth c g (sw_A g s.heap.size) (sw_QI below g args s r st1) 8 112 [(3, .int x5)] [] s11) h (fun s11 h => ?_) (fun k12 J13 h => ?_)
      · refine sw_iload_n X 0 rfl rfl dX5_ask_112 ?_
        exact sw_iret X hr hlk dX5_ask_113 h
      · refine sw_icmp_eq X 112 (by decide) dX5_ask_103 (fun q14 => ?_) (fun q14 => ?_)
        · have h := ite_T h q14
          refine sw_sub [1] rfl ?_
          exact J13 _ h
        · have h := ite_F h q14
          refine sw_aload_n X 0 rfl rfl dX5_ask_106 ?_
          refine sw_iload X 2 rfl dX5_ask_107 ?_
          refine sw_putI X sw_cl5 (show sw_kd 0 = 5 from rfl) (k := 14) rfl (by decide) rfl rfl wf_X5_79 dX5_ask_109 (fun s15 es15 => ?_)
          have h := nm_E h es15
          refine sw_sub [1] rfl ?_
          exact J13 _ h
    · have h := ite_F h q10
      refine sw_aload_n X 0 rfl rfl dX5_ask_33 ?_
      refine sw_getR X sw_cl5 (show sw_kd 0 = 5 from rfl) (k := 11) rfl (by decide) (o1 := 60) rfl wf_X5_68 dX5_ask_34 ?_
      refine sw_getR X sw_cl0 (show sw_kd 60 = 0 from rfl) (k := 6) rfl (by decide) (o1 := 61) rfl wf_X5_285 dX5_ask_37 ?_
      refine sw_iload X 3 rfl dX5_ask_40 ?_
      obtain ⟨q16, h⟩ := bnd_E h
      refine sw_iald X (show sw_kd 61 = 8 from rfl) (n := 6) rfl q16 dX5_ask_42 ?_
      refine sw_topi (fun x17 ex17 => ?_)
      have h := nm_E h ex17
      refine sw_istore X [(6, .int x17), (0, .ref (g.1 0)), (3, .int x5), (4, .int x6), (5, .int x7)] (by decide) rfl dX5_ask_43 ?_
      refine sw_iload X 0 rfl dX5_ask_45 ?_
      refine sw_aload_n X 1 rfl rfl dX5_ask_47 ?_
      refine sw_getR X sw_cl5 (show sw_kd 0 = 5 from rfl) (k := 11) rfl (by decide) (o1 := 60) rfl wf_X5_68 dX5_ask_48 ?_
      refine sw_getI X sw_cl0 (show sw_kd 60 = 0 from rfl) (k := 0) rfl (by decide) wf_X5_268 dX5_ask_51 ?_
      refine sw_iload X 0 rfl dX5_ask_54 ?_
      refine sw_isub X dX5_ask_56 ?_
      refine sw_mmax X wm_X5_288 ws_max.1 ws_max.2.1 ws_max.2.2 (by omega) (Nat.le_of_ble_eq_true rfl) dX5_ask_57 ?_
      refine sw_topi (fun x18 ex18 => ?_)
      have h := nm_E h ex18
      refine sw_istore X [(7, .int x18), (6, .int x17), (0, .ref (g.1 0)), (3, .int x5), (4, .int x6), (5, .int x7)] (by decide) rfl dX5_ask_60 ?_
      refine sw_aload_n X 2 rfl rfl dX5_ask_62 ?_
      refine sw_getR X sw_cl5 (show sw_kd 0 = 5 from rfl) (k := 4) rfl (by decide) (o1 := 15) rfl wf_X5_29 dX5_ask_63 ?_
      refine sw_iload X 5 rfl dX5_ask_66 ?_
      obtain ⟨r20, c19, h⟩ := bo_E h
      refine sw_callVI X (o := 15) (As := (fun g => [.int x7])) sw_cl4 (show sw_kd 15 = 4 from rfl) ws_X4_isIn (by omega) (c_X4_isIn F (show sw_kd 15 = 4 from rfl) x7 s3 c19) rfl rfl (Nat.le_of_ble_eq_true rfl) wm_X5_156 dX5_ask_68 ?_
      refine jn2_E (fun (x21 : Int32) (x22 : Int32) => sw_V p l e 8 s m args below meth c g (sw_A g s.heap.size) (sw_QI below g args s r st1) 8 94 [(0, .ref (g.1 0)), (3, .int x21), (4, .int x22), (5, .int x7)] [] s3) h (fun x21 x22 h => ?_) (fun k23 J24 h => ?_)
      · obtain ⟨x25, ex25⟩ : ∃ y : Int32, y = x7 + 1 := ⟨_, rfl⟩
        have h := nm_E h ex25
        refine sw_iinc X 3 x25 [(5, .int x25), (0, .ref (g.1 0)), (3, .int x21), (4, .int x22)] rfl (by rw [ex25]; rfl) (by decide) rfl dX5_ask_94 ?_
        refine sw_goto X 21 (by decide) dX5_ask_97 ?_
        refine sw_sub [1, 2, 3, 0] rfl ?_
        exact ih9 _ _ _ h
      · refine sw_if_ne X 94 (by decide) dX5_ask_71 (fun q26 => ?_) (fun q26 => ?_)
        · have h := ite_F h q26
          refine sw_sub [2, 3, 4, 5] rfl ?_
          exact J24 _ _ h
        · have h := ite_T h q26
          refine sw_iload_n X 3 rfl rfl dX5_ask_74 ?_
          refine sw_bipush X (v := (-9)) (by decide) dX5_ask_75 ?_
          refine jn0_E (sw_V p l e 8 s m args below meth c g (sw_A g s.heap.size) (sw_QI below g args s r st1) 8 87 [(0, .ref (g.1 0)), (5, .int x7), (7, .int x18)] [] s3) h (fun h => ?_) (fun k27 J28 h => ?_)
          · refine sw_iload X 1 rfl dX5_ask_87 ?_
            refine sw_istore_n X [(3, .int x7), (0, .ref (g.1 0)), (5, .int x7), (7, .int x18)] rfl (by decide) rfl dX5_ask_89 ?_
            refine sw_iload X 3 rfl dX5_ask_90 ?_
            refine sw_istore X [(4, .int x18), (3, .int x7), (0, .ref (g.1 0)), (5, .int x7), (7, .int x18)] (by decide) rfl dX5_ask_92 ?_
            refine sw_sub [2, 1, 0, 3] rfl ?_
            exact J24 _ _ h
          · refine sw_icmp_eq X 87 (by decide) dX5_ask_77 (fun q29 => ?_) (fun q29 => ?_)
            · have h := ite_T h q29
              refine sw_sub [2, 5, 0] rfl ?_
              exact J28  h
            · have h := ite_F h q29
              refine sw_iload X 0 rfl dX5_ask_80 ?_
              refine sw_iload X 4 rfl dX5_ask_82 ?_
              refine sw_icmp_ge X 94 (by decide) dX5_ask_84 (fun q30 => ?_) (fun q30 => ?_)
              · have h := ite_T h q30
                refine sw_sub [2, 3, 4, 5] rfl ?_
                exact J24 _ _ h
              · have h := ite_F h q30
                refine sw_sub [2, 5, 0] rfl ?_
                exact J28  h
  · have h := ite_F h q4
    refine sw_iload_n X 0 rfl rfl dX5_ask_10 ?_
    exact sw_iret X hr hlk dX5_ask_11 h
theorem dX5_came_0 : decode cX5_came 0 = .ok (.aload_n 0, 1) := by decide +kernel
theorem dX5_came_1 : decode cX5_came 1 = .ok (.iload_n 1, 1) := by decide +kernel
theorem dX5_came_2 : decode cX5_came 2 = .ok (.invokevirtual 273, 3) := by decide +kernel
theorem dX5_came_5 : decode cX5_came 5 = .ok (.istore_n 2, 1) := by decide +kernel
theorem dX5_came_6 : decode cX5_came 6 = .ok (.iload_n 2, 1) := by decide +kernel
theorem dX5_came_7 : decode cX5_came 7 = .ok (.ifCond .eq 5, 3) := by decide +kernel
theorem dX5_came_10 : decode cX5_came 10 = .ok (.iload_n 2, 1) := by decide +kernel
theorem dX5_came_11 : decode cX5_came 11 = .ok (.ireturn, 1) := by decide +kernel
theorem dX5_came_12 : decode cX5_came 12 = .ok (.aload_n 0, 1) := by decide +kernel
theorem dX5_came_13 : decode cX5_came 13 = .ok (.aload_n 0, 1) := by decide +kernel
theorem dX5_came_14 : decode cX5_came 14 = .ok (.getfield 68, 3) := by decide +kernel
theorem dX5_came_17 : decode cX5_came 17 = .ok (.getfield 293, 3) := by decide +kernel
theorem dX5_came_20 : decode cX5_came 20 = .ok (.putfield 79, 3) := by decide +kernel
theorem dX5_came_23 : decode cX5_came 23 = .ok (.aload_n 0, 1) := by decide +kernel
theorem dX5_came_24 : decode cX5_came 24 = .ok (.getfield 68, 3) := by decide +kernel
theorem dX5_came_27 : decode cX5_came 27 = .ok (.getfield 296, 3) := by decide +kernel
theorem dX5_came_30 : decode cX5_came 30 = .ok (.ireturn, 1) := by decide +kernel
def j_X5_came (F : Nat) (a1 : Int32) (st : sw_St) : Option (Int32 × sw_St) :=
bd (j_X5_refusedBeard F a1 st) (fun (r2 : Int32) (s3 : sw_St) =>
(if r2 = 0 then (
 nm (sw_setC s3 0 14 (s3.1 60 5)) (fun (s5 : sw_St) =>
 some ((s5.1 60 4 : Int32), s5)))
else (
 some ((r2 : Int32), s3))))
set_option maxHeartbeats 4000000 in
set_option maxRecDepth 100000 in
theorem c_X5_came (F : Nat) (a1 : Int32) (st : sw_St) {r : Int32} {st1 : sw_St} (h : j_X5_came F a1 st = some (r, st1)) : sw_CI yX5_came (.code yX5_came cX5_came 3 (some .int)) 8 (fun g => [.ref (g.1 0), .int a1]) st r st1 := by
  refine sw_entI RX5 (fun g => [(0, .ref (g.1 0)), (1, .int a1)]) (by decide) rfl (fun _ => Nat.le_of_ble_eq_true rfl) (fun _ => rfl) ?_
  intro p l e s m args below meth c g X hr hlk
  unfold j_X5_came at h
  refine sw_aload_n X 0 rfl rfl dX5_came_0 ?_
  refine sw_iload_n X 1 rfl rfl dX5_came_1 ?_
  obtain ⟨r2, s3, c1, h⟩ := bd_E h
  refine sw_callVI X (o := 0) (As := (fun g => [.int a1])) sw_cl5 (show sw_kd 0 = 5 from rfl) ws_X5_refusedBeard (by omega) (c_X5_refusedBeard F a1 st c1) rfl rfl (Nat.le_of_ble_eq_true rfl) wm_X5_273 dX5_came_2 ?_
  refine sw_istore_n X [(2, .int r2), (0, .ref (g.1 0)), (1, .int a1)] rfl (by decide) rfl dX5_came_5 ?_
  refine sw_iload_n X 0 rfl rfl dX5_came_6 ?_
  refine sw_if_eq X 12 (by decide) dX5_came_7 (fun q4 => ?_) (fun q4 => ?_)
  · have h := ite_T h q4
    refine sw_aload_n X 1 rfl rfl dX5_came_12 ?_
    refine sw_aload_n X 1 rfl rfl dX5_came_13 ?_
    refine sw_getR X sw_cl5 (show sw_kd 0 = 5 from rfl) (k := 11) rfl (by decide) (o1 := 60) rfl wf_X5_68 dX5_came_14 ?_
    refine sw_getI X sw_cl0 (show sw_kd 60 = 0 from rfl) (k := 5) rfl (by decide) wf_X5_293 dX5_came_17 ?_
    refine sw_putI X sw_cl5 (show sw_kd 0 = 5 from rfl) (k := 14) rfl (by decide) rfl rfl wf_X5_79 dX5_came_20 (fun s5 es5 => ?_)
    have h := nm_E h es5
    refine sw_aload_n X 1 rfl rfl dX5_came_23 ?_
    refine sw_getR X sw_cl5 (show sw_kd 0 = 5 from rfl) (k := 11) rfl (by decide) (o1 := 60) rfl wf_X5_68 dX5_came_24 ?_
    refine sw_getI X sw_cl0 (show sw_kd 60 = 0 from rfl) (k := 4) rfl (by decide) wf_X5_296 dX5_came_27 ?_
    exact sw_iret X hr hlk dX5_came_30 h
  · have h := ite_F h q4
    refine sw_iload_n X 0 rfl rfl dX5_came_10 ?_
    exact sw_iret X hr hlk dX5_came_11 h
theorem dX5_duelFrom_0 : decode cX5_duelFrom 0 = .ok (.iload_n 1, 1) := by decide +kernel
theorem dX5_duelFrom_1 : decode cX5_duelFrom 1 = .ok (.iload_n 2, 1) := by decide +kernel
theorem dX5_duelFrom_2 : decode cX5_duelFrom 2 = .ok (.if_icmp .ge 8, 3) := by decide +kernel
theorem dX5_duelFrom_5 : decode cX5_duelFrom 5 = .ok (.iload_n 1, 1) := by decide +kernel
theorem dX5_duelFrom_6 : decode cX5_duelFrom 6 = .ok (.iconst 4, 1) := by decide +kernel
theorem dX5_duelFrom_7 : decode cX5_duelFrom 7 = .ok (.if_icmp .lt 5, 3) := by decide +kernel
theorem dX5_duelFrom_10 : decode cX5_duelFrom 10 = .ok (.iload_n 3, 1) := by decide +kernel
theorem dX5_duelFrom_11 : decode cX5_duelFrom 11 = .ok (.ireturn, 1) := by decide +kernel
theorem dX5_duelFrom_12 : decode cX5_duelFrom 12 = .ok (.iload_n 1, 1) := by decide +kernel
theorem dX5_duelFrom_13 : decode cX5_duelFrom 13 = .ok (.iconst 2, 1) := by decide +kernel
theorem dX5_duelFrom_14 : decode cX5_duelFrom 14 = .ok (.irem, 1) := by decide +kernel
theorem dX5_duelFrom_15 : decode cX5_duelFrom 15 = .ok (.ifCond .ne 7, 3) := by decide +kernel
theorem dX5_duelFrom_18 : decode cX5_duelFrom 18 = .ok (.iconst 1, 1) := by decide +kernel
theorem dX5_duelFrom_19 : decode cX5_duelFrom 19 = .ok (.goto 4, 3) := by decide +kernel
theorem dX5_duelFrom_22 : decode cX5_duelFrom 22 = .ok (.iconst 0, 1) := by decide +kernel
theorem dX5_duelFrom_23 : decode cX5_duelFrom 23 = .ok (.istore 5, 2) := by decide +kernel
theorem dX5_duelFrom_25 : decode cX5_duelFrom 25 = .ok (.aload_n 0, 1) := by decide +kernel
theorem dX5_duelFrom_26 : decode cX5_duelFrom 26 = .ok (.iload_n 1, 1) := by decide +kernel
theorem dX5_duelFrom_27 : decode cX5_duelFrom 27 = .ok (.iconst 1, 1) := by decide +kernel
theorem dX5_duelFrom_28 : decode cX5_duelFrom 28 = .ok (.iadd, 1) := by decide +kernel
theorem dX5_duelFrom_29 : decode cX5_duelFrom 29 = .ok (.iload_n 2, 1) := by decide +kernel
theorem dX5_duelFrom_30 : decode cX5_duelFrom 30 = .ok (.iload_n 3, 1) := by decide +kernel
theorem dX5_duelFrom_31 : decode cX5_duelFrom 31 = .ok (.iload 4, 2) := by decide +kernel
theorem dX5_duelFrom_33 : decode cX5_duelFrom 33 = .ok (.invokestatic 297, 3) := by decide +kernel
theorem dX5_duelFrom_36 : decode cX5_duelFrom 36 = .ok (.istore 6, 2) := by decide +kernel
theorem dX5_duelFrom_38 : decode cX5_duelFrom 38 = .ok (.iconst 0, 1) := by decide +kernel
theorem dX5_duelFrom_39 : decode cX5_duelFrom 39 = .ok (.istore 7, 2) := by decide +kernel
theorem dX5_duelFrom_41 : decode cX5_duelFrom 41 = .ok (.iload 7, 2) := by decide +kernel
theorem dX5_duelFrom_43 : decode cX5_duelFrom 43 = .ok (.aload_n 0, 1) := by decide +kernel
theorem dX5_duelFrom_44 : decode cX5_duelFrom 44 = .ok (.getfield 134, 3) := by decide +kernel
theorem dX5_duelFrom_47 : decode cX5_duelFrom 47 = .ok (.if_icmp .ge 73, 3) := by decide +kernel
theorem dX5_duelFrom_50 : decode cX5_duelFrom 50 = .ok (.iload 4, 2) := by decide +kernel
theorem dX5_duelFrom_52 : decode cX5_duelFrom 52 = .ok (.iload 7, 2) := by decide +kernel
theorem dX5_duelFrom_54 : decode cX5_duelFrom 54 = .ok (.ishr, 1) := by decide +kernel
theorem dX5_duelFrom_55 : decode cX5_duelFrom 55 = .ok (.iconst 1, 1) := by decide +kernel
theorem dX5_duelFrom_56 : decode cX5_duelFrom 56 = .ok (.iand, 1) := by decide +kernel
theorem dX5_duelFrom_57 : decode cX5_duelFrom 57 = .ok (.ifCond .ne 57, 3) := by decide +kernel
theorem dX5_duelFrom_60 : decode cX5_duelFrom 60 = .ok (.aload_n 0, 1) := by decide +kernel
theorem dX5_duelFrom_61 : decode cX5_duelFrom 61 = .ok (.iload 7, 2) := by decide +kernel
theorem dX5_duelFrom_63 : decode cX5_duelFrom 63 = .ok (.iload_n 3, 1) := by decide +kernel
theorem dX5_duelFrom_64 : decode cX5_duelFrom 64 = .ok (.iload 4, 2) := by decide +kernel
theorem dX5_duelFrom_66 : decode cX5_duelFrom 66 = .ok (.invokevirtual 200, 3) := by decide +kernel
theorem dX5_duelFrom_69 : decode cX5_duelFrom 69 = .ok (.istore 8, 2) := by decide +kernel
theorem dX5_duelFrom_71 : decode cX5_duelFrom 71 = .ok (.aload_n 0, 1) := by decide +kernel
theorem dX5_duelFrom_72 : decode cX5_duelFrom 72 = .ok (.iload_n 1, 1) := by decide +kernel
theorem dX5_duelFrom_73 : decode cX5_duelFrom 73 = .ok (.iconst 1, 1) := by decide +kernel
theorem dX5_duelFrom_74 : decode cX5_duelFrom 74 = .ok (.iadd, 1) := by decide +kernel
theorem dX5_duelFrom_75 : decode cX5_duelFrom 75 = .ok (.iload_n 2, 1) := by decide +kernel
theorem dX5_duelFrom_76 : decode cX5_duelFrom 76 = .ok (.iload 8, 2) := by decide +kernel
theorem dX5_duelFrom_78 : decode cX5_duelFrom 78 = .ok (.iload 4, 2) := by decide +kernel
theorem dX5_duelFrom_80 : decode cX5_duelFrom 80 = .ok (.iconst 1, 1) := by decide +kernel
theorem dX5_duelFrom_81 : decode cX5_duelFrom 81 = .ok (.iload 7, 2) := by decide +kernel
theorem dX5_duelFrom_83 : decode cX5_duelFrom 83 = .ok (.ishl, 1) := by decide +kernel
theorem dX5_duelFrom_84 : decode cX5_duelFrom 84 = .ok (.ior, 1) := by decide +kernel
theorem dX5_duelFrom_85 : decode cX5_duelFrom 85 = .ok (.invokestatic 297, 3) := by decide +kernel
theorem dX5_duelFrom_88 : decode cX5_duelFrom 88 = .ok (.istore 9, 2) := by decide +kernel
theorem dX5_duelFrom_90 : decode cX5_duelFrom 90 = .ok (.iload 5, 2) := by decide +kernel
theorem dX5_duelFrom_92 : decode cX5_duelFrom 92 = .ok (.ifCond .eq 13, 3) := by decide +kernel
theorem dX5_duelFrom_95 : decode cX5_duelFrom 95 = .ok (.iload 6, 2) := by decide +kernel
theorem dX5_duelFrom_97 : decode cX5_duelFrom 97 = .ok (.iload 9, 2) := by decide +kernel
theorem dX5_duelFrom_99 : decode cX5_duelFrom 99 = .ok (.invokestatic 288, 3) := by decide +kernel
theorem dX5_duelFrom_102 : decode cX5_duelFrom 102 = .ok (.goto 10, 3) := by decide +kernel
theorem dX5_duelFrom_105 : decode cX5_duelFrom 105 = .ok (.iload 6, 2) := by decide +kernel
theorem dX5_duelFrom_107 : decode cX5_duelFrom 107 = .ok (.iload 9, 2) := by decide +kernel
theorem dX5_duelFrom_109 : decode cX5_duelFrom 109 = .ok (.invokestatic 301, 3) := by decide +kernel
theorem dX5_duelFrom_112 : decode cX5_duelFrom 112 = .ok (.istore 6, 2) := by decide +kernel
theorem dX5_duelFrom_114 : decode cX5_duelFrom 114 = .ok (.iinc 7 1, 3) := by decide +kernel
theorem dX5_duelFrom_117 : decode cX5_duelFrom 117 = .ok (.goto (-76), 3) := by decide +kernel
theorem dX5_duelFrom_120 : decode cX5_duelFrom 120 = .ok (.iload 6, 2) := by decide +kernel
theorem dX5_duelFrom_122 : decode cX5_duelFrom 122 = .ok (.ireturn, 1) := by decide +kernel
def j_X5_duelFrom (F : Nat) : Nat → Int32 → Int32 → Int32 → Int32 → sw_St → Option Int32
  | 0, _, _, _, _, _ => none
  | n + 1, a2, a3, a4, a5, st =>
  jn (
    some (a4 : Int32)) (fun k1 =>
   (if a3 ≤ a2 then (
    k1)
   else (
    (if a2 < 4 then (
     jn (fun (x5 : Int32) => 
       bo (j_X5_duelFrom F n (a2 + 1) a3 a4 a5 st) (fun (r9 : Int32) =>
       lz2 (fun f12 (x10 : Int32) (x11 : Int32) =>
        (if (st.1 15 0) ≤ x11 then (
         some (x10 : Int32))
        else (
         jn (fun (x15 : Int32) => 
           nm (x11 + 1) (fun (x18 : Int32) =>
           f12 x15 x18)) (fun k16 =>
          (if ((a5 >>> (x11 &&& 31)) &&& 1) = 0 then (
           bo (j_X4_woundBy F 15 x11 a4 a5 st) (fun (r21 : Int32) =>
           bo (j_X5_duelFrom F n (a2 + 1) a3 r21 (a5 ||| (1 <<< (x11 &&& 31))) st) (fun (r23 : Int32) =>
           jn (fun (x24 : Int32) => 
             k16 x24) (fun k25 =>
            (if x5 = 0 then (
             k25 (if r23 < x10 then r23 else x10))
            else (
             k25 (if x10 < r23 then r23 else x10)))))))
          else (
           k16 x10)))))) F r9 0)) (fun k6 =>
      (if (a2 - a2 / 2 * 2) = 0 then (
       k6 1)
      else (
       k6 0))))
    else (
     k1)))))
set_option maxHeartbeats 4000000 in
set_option maxRecDepth 100000 in
theorem c_X5_duelFrom (F : Nat) : ∀ (n : Nat) (a2 : Int32) (a3 : Int32) (a4 : Int32) (a5 : Int32) (st : sw_St) (r : Int32), j_X5_duelFrom F n a2 a3 a4 a5 st = some r → sw_CI yX5_duelFrom (.code yX5_duelFrom cX5_duelFrom 10 (some .int)) (5 + n) (fun g => [.ref (g.1 15), .int a2, .int a3, .int a4, .int a5]) st r st := by
  intro n
  induction n with
  | zero => intro a2 a3 a4 a5 st r h; cases h
  | succ n ihR =>
  intro a2 a3 a4 a5 st r h
  refine sw_entI RX5 (fun g => [(0, .ref (g.1 15)), (1, .int a2), (2, .int a3), (3, .int a4), (4, .int a5)]) (by decide) rfl (fun _ => Nat.le_of_ble_eq_true rfl) (fun _ => rfl) ?_
  intro p l e s m args below meth c g X hr hlk
  rw [j_X5_duelFrom] at h
  refine sw_iload_n X 1 rfl rfl dX5_duelFrom_0 ?_
  refine sw_iload_n X 2 rfl rfl dX5_duelFrom_1 ?_
  refine jn0_E (sw_V p l e (5 + n + 1) s m args below meth c g (sw_A g s.heap.size) (sw_QI below g args s r st) 10 10 [(3, .int a4)] [] st) h (fun h => ?_) (fun k1 J2 h => ?_)
  · refine sw_iload_n X 0 rfl rfl dX5_duelFrom_10 ?_
    exact sw_iret X hr hlk dX5_duelFrom_11 (by cases h; rfl)
  · refine sw_icmp_ge X 10 (by decide) dX5_duelFrom_2 (fun q3 => ?_) (fun q3 => ?_)
    · have h := ite_T h q3
      refine sw_sub [3] rfl ?_
      exact J2  h
    · have h := ite_F h q3
      refine sw_iload_n X 1 rfl rfl dX5_duelFrom_5 ?_
      refine sw_iconst X (v := 4) (by decide) dX5_duelFrom_6 ?_
      refine sw_icmp_lt X 12 (by decide) dX5_duelFrom_7 (fun q4 => ?_) (fun q4 => ?_)
      · have h := ite_T h q4
        refine sw_iload_n X 1 rfl rfl dX5_duelFrom_12 ?_
        refine sw_iconst X (v := 2) (by decide) dX5_duelFrom_13 ?_
        refine sw_irem X (by decide) dX5_duelFrom_14 ?_
        refine jn1_E (fun (x5 : Int32) => sw_V p l e (5 + n + 1) s m args below meth c g (sw_A g s.heap.size) (sw_QI below g args s r st) 10 23 [(0, .ref (g.1 15)), (1, .int a2), (2, .int a3), (3, .int a4), (4, .int a5)] [.int x5] st) h (fun x5 h => ?_) (fun k6 J7 h => ?_)
        · refine sw_istore X [(5, .int x5), (0, .ref (g.1 15)), (1, .int a2), (2, .int a3), (3, .int a4), (4, .int a5)] (by decide) rfl dX5_duelFrom_23 ?_
          refine sw_aload_n X 1 rfl rfl dX5_duelFrom_25 ?_
          refine sw_iload_n X 2 rfl rfl dX5_duelFrom_26 ?_
          refine sw_iconst X (v := 1) (by decide) dX5_duelFrom_27 ?_
          refine sw_iadd X dX5_duelFrom_28 ?_
          refine sw_iload_n X 3 rfl rfl dX5_duelFrom_29 ?_
          refine sw_iload_n X 4 rfl rfl dX5_duelFrom_30 ?_
          refine sw_iload X 5 rfl dX5_duelFrom_31 ?_
          obtain ⟨r9, c8, h⟩ := bo_E h
          refine sw_callSI X (As := (fun g => [.ref (g.1 15), .int (a2 + 1), .int a3, .int a4, .int a5])) ws_X5_duelFrom (by omega) (ihR (a2 + 1) a3 a4 a5 st _ c8) rfl rfl (Nat.le_of_ble_eq_true rfl) wm_X5_297 dX5_duelFrom_33 ?_
          refine sw_istore X [(6, .int r9), (5, .int x5), (0, .ref (g.1 15)), (1, .int a2), (2, .int a3), (3, .int a4), (4, .int a5)] (by decide) rfl dX5_duelFrom_36 ?_
          refine sw_iconst X (v := 0) (by decide) dX5_duelFrom_38 ?_
          refine sw_istore X [(7, .int 0), (6, .int r9), (5, .int x5), (0, .ref (g.1 15)), (1, .int a2), (2, .int a3), (3, .int a4), (4, .int a5)] (by decide) rfl dX5_duelFrom_39 ?_
          refine sw_sub [3, 4, 5, 6, 7, 2, 1, 0] rfl ?_
          refine lz2_E (fun (x10 : Int32) (x11 : Int32) => sw_V p l e (5 + n + 1) s m args below meth c g (sw_A g s.heap.size) (sw_QI below g args s r st) 10 41 [(0, .ref (g.1 15)), (1, .int a2), (2, .int a3), (3, .int a4), (4, .int a5), (5, .int x5), (6, .int x10), (7, .int x11)] [] st) h (fun f12 ih13 x10 x11 h => ?_)
          refine sw_iload X 7 rfl dX5_duelFrom_41 ?_
          refine sw_aload_n X 0 rfl rfl dX5_duelFrom_43 ?_
          refine sw_getI X sw_cl4 (show sw_kd 15 = 4 from rfl) (k := 0) rfl (by decide) wf_X5_134 dX5_duelFrom_44 ?_
          refine sw_icmp_ge X 120 (by decide) dX5_duelFrom_47 (fun q14 => ?_) (fun q14 => ?_)
          · have h := ite_T h q14
            refine sw_iload X 6 rfl dX5_duelFrom_120 ?_
            exact sw_iret X hr hlk dX5_duelFrom_122 (by cases h; rfl)
          · have h := ite_F h q14
            refine sw_iload X 4 rfl dX5_duelFrom_50 ?_
            refine sw_iload X 7 rfl dX5_duelFrom_52 ?_
            refine sw_ishr X dX5_duelFrom_54 ?_
            refine sw_iconst X (v := 1) (by decide) dX5_duelFrom_55 ?_
            refine sw_iand X dX5_duelFrom_56 ?_
            refine jn1_E (fun (x15 : Int32) => sw_V p l e (5 + n + 1) s m args below meth c g (sw_A g s.heap.size) (sw_QI below g args s r st) 10 114 [(0, .ref (g.1 15)), (1, .int a2), (2, .int a3), (3, .int a4), (4, .int a5), (5, .int x5), (6, .int x15), (7, .int x11)] [] st) h (fun x15 h => ?_) (fun k16 J17 h => ?_)
            · obtain ⟨x18, ex18⟩ : ∃ y : Int32, y = x11 + 1 := ⟨_, rfl⟩
              have h := nm_E h ex18
              refine sw_iinc X 7 x18 [(7, .int x18), (0, .ref (g.1 15)), (1, .int a2), (2, .int a3), (3, .int a4), (4, .int a5), (5, .int x5), (6, .int x15)] rfl (by rw [ex18]; rfl) (by decide) rfl dX5_duelFrom_114 ?_
              refine sw_goto X 41 (by decide) dX5_duelFrom_117 ?_
              refine sw_sub [1, 2, 3, 4, 5, 6, 7, 0] rfl ?_
              exact ih13 _ _ h
            · refine sw_if_ne X 114 (by decide) dX5_duelFrom_57 (fun q19 => ?_) (fun q19 => ?_)
              · have h := ite_F h q19
                exact J17 _ h
              · have h := ite_T h q19
                refine sw_aload_n X 0 rfl rfl dX5_duelFrom_60 ?_
                refine sw_iload X 7 rfl dX5_duelFrom_61 ?_
                refine sw_iload_n X 3 rfl rfl dX5_duelFrom_63 ?_
                refine sw_iload X 4 rfl dX5_duelFrom_64 ?_
                obtain ⟨r21, c20, h⟩ := bo_E h
                refine sw_callVI X (o := 15) (As := (fun g => [.int x11, .int a4, .int a5])) sw_cl4 (show sw_kd 15 = 4 from rfl) ws_X4_woundBy (by omega) (c_X4_woundBy F (show sw_kd 15 = 4 from rfl) x11 a4 a5 st c20) rfl rfl (Nat.le_of_ble_eq_true rfl) wm_X5_200 dX5_duelFrom_66 ?_
                refine sw_istore X [(8, .int r21), (0, .ref (g.1 15)), (1, .int a2), (2, .int a3), (3, .int a4), (4, .int a5), (5, .int x5), (6, .int x10), (7, .int x11)] (by decide) rfl dX5_duelFrom_69 ?_
                refine sw_aload_n X 1 rfl rfl dX5_duelFrom_71 ?_
                refine sw_iload_n X 2 rfl rfl dX5_duelFrom_72 ?_
                refine sw_iconst X (v := 1) (by decide) dX5_duelFrom_73 ?_
                refine sw_iadd X dX5_duelFrom_74 ?_
                refine sw_iload_n X 3 rfl rfl dX5_duelFrom_75 ?_
                refine sw_iload X 0 rfl dX5_duelFrom_76 ?_
                refine sw_iload X 5 rfl dX5_duelFrom_78 ?_
                refine sw_iconst X (v := 1) (by decide) dX5_duelFrom_80 ?_
                refine sw_iload X 8 rfl dX5_duelFrom_81 ?_
                refine sw_ishl X dX5_duelFrom_83 ?_
                refine sw_ior X dX5_duelFrom_84 ?_
                obtain ⟨r23, c22, h⟩ := bo_E h
                refine sw_callSI X (As := (fun g => [.ref (g.1 15), .int (a2 + 1), .int a3, .int r21, .int (a5 ||| (1 <<< (x11 &&& 31)))])) ws_X5_duelFrom (by omega) (ihR (a2 + 1) a3 r21 (a5 ||| (1 <<< (x11 &&& 31))) st _ c22) rfl rfl (Nat.le_of_ble_eq_true rfl) wm_X5_297 dX5_duelFrom_85 ?_
                refine sw_istore X [(9, .int r23), (8, .int r21), (0, .ref (g.1 15)), (1, .int a2), (2, .int a3), (3, .int a4), (4, .int a5), (5, .int x5), (6, .int x10), (7, .int x11)] (by decide) rfl dX5_duelFrom_88 ?_
                refine sw_iload X 7 rfl dX5_duelFrom_90 ?_
                refine jn1_E (fun (x24 : Int32) => sw_V p l e (5 + n + 1) s m args below meth c g (sw_A g s.heap.size) (sw_QI below g args s r st) 10 112 [(0, .ref (g.1 15)), (1, .int a2), (2, .int a3), (3, .int a4), (4, .int a5), (5, .int x5), (7, .int x11)] [.int x24] st) h (fun x24 h => ?_) (fun k25 J26 h => ?_)
                · refine sw_istore X [(6, .int x24), (0, .ref (g.1 15)), (1, .int a2), (2, .int a3), (3, .int a4), (4, .int a5), (5, .int x5), (7, .int x11)] (by decide) rfl dX5_duelFrom_112 ?_
                  refine sw_sub [1, 2, 3, 4, 5, 6, 0, 7] rfl ?_
                  exact J17 _ h
                · refine sw_if_eq X 105 (by decide) dX5_duelFrom_92 (fun q27 => ?_) (fun q27 => ?_)
                  · have h := ite_T h q27
                    refine sw_iload X 8 rfl dX5_duelFrom_105 ?_
                    refine sw_iload X 0 rfl dX5_duelFrom_107 ?_
                    refine sw_mmin X wm_X5_301 ws_min.1 ws_min.2.1 ws_min.2.2 (by omega) (Nat.le_of_ble_eq_true rfl) dX5_duelFrom_109 ?_
                    refine sw_sub [2, 3, 4, 5, 6, 7, 9] rfl ?_
                    exact J26 _ h
                  · have h := ite_F h q27
                    refine sw_iload X 8 rfl dX5_duelFrom_95 ?_
                    refine sw_iload X 0 rfl dX5_duelFrom_97 ?_
                    refine sw_mmax X wm_X5_288 ws_max.1 ws_max.2.1 ws_max.2.2 (by omega) (Nat.le_of_ble_eq_true rfl) dX5_duelFrom_99 ?_
                    refine sw_goto X 112 (by decide) dX5_duelFrom_102 ?_
                    refine sw_sub [2, 3, 4, 5, 6, 7, 9] rfl ?_
                    exact J26 _ h
        · refine sw_if_ne X 22 (by decide) dX5_duelFrom_15 (fun q28 => ?_) (fun q28 => ?_)
          · have h := ite_F h q28
            refine sw_iconst X (v := 0) (by decide) dX5_duelFrom_22 ?_
            exact J7 _ h
          · have h := ite_T h q28
            refine sw_iconst X (v := 1) (by decide) dX5_duelFrom_18 ?_
            refine sw_goto X 23 (by decide) dX5_duelFrom_19 ?_
            exact J7 _ h
      · have h := ite_F h q4
        refine sw_sub [3] rfl ?_
        exact J2  h
theorem dX5_duel_0 : decode cX5_duel 0 = .ok (.iload_n 1, 1) := by decide +kernel
theorem dX5_duel_1 : decode cX5_duel 1 = .ok (.ifCond .lt 8, 3) := by decide +kernel
theorem dX5_duel_4 : decode cX5_duel 4 = .ok (.iload_n 1, 1) := by decide +kernel
theorem dX5_duel_5 : decode cX5_duel 5 = .ok (.iconst 4, 1) := by decide +kernel
theorem dX5_duel_6 : decode cX5_duel 6 = .ok (.if_icmp .le 5, 3) := by decide +kernel
theorem dX5_duel_9 : decode cX5_duel 9 = .ok (.iconst (-1), 1) := by decide +kernel
theorem dX5_duel_10 : decode cX5_duel 10 = .ok (.ireturn, 1) := by decide +kernel
theorem dX5_duel_11 : decode cX5_duel 11 = .ok (.aload_n 0, 1) := by decide +kernel
theorem dX5_duel_12 : decode cX5_duel 12 = .ok (.getfield 29, 3) := by decide +kernel
theorem dX5_duel_15 : decode cX5_duel 15 = .ok (.getfield 134, 3) := by decide +kernel
theorem dX5_duel_18 : decode cX5_duel 18 = .ok (.ifCond .ne 6, 3) := by decide +kernel
theorem dX5_duel_21 : decode cX5_duel 21 = .ok (.bipush (-4), 2) := by decide +kernel
theorem dX5_duel_23 : decode cX5_duel 23 = .ok (.ireturn, 1) := by decide +kernel
theorem dX5_duel_24 : decode cX5_duel 24 = .ok (.aload_n 0, 1) := by decide +kernel
theorem dX5_duel_25 : decode cX5_duel 25 = .ok (.getfield 29, 3) := by decide +kernel
theorem dX5_duel_28 : decode cX5_duel 28 = .ok (.iconst 0, 1) := by decide +kernel
theorem dX5_duel_29 : decode cX5_duel 29 = .ok (.iload_n 1, 1) := by decide +kernel
theorem dX5_duel_30 : decode cX5_duel 30 = .ok (.aload_n 0, 1) := by decide +kernel
theorem dX5_duel_31 : decode cX5_duel 31 = .ok (.getfield 29, 3) := by decide +kernel
theorem dX5_duel_34 : decode cX5_duel 34 = .ok (.getfield 166, 3) := by decide +kernel
theorem dX5_duel_37 : decode cX5_duel 37 = .ok (.aload_n 0, 1) := by decide +kernel
theorem dX5_duel_38 : decode cX5_duel 38 = .ok (.getfield 29, 3) := by decide +kernel
theorem dX5_duel_41 : decode cX5_duel 41 = .ok (.getfield 169, 3) := by decide +kernel
theorem dX5_duel_44 : decode cX5_duel 44 = .ok (.invokestatic 297, 3) := by decide +kernel
theorem dX5_duel_47 : decode cX5_duel 47 = .ok (.ireturn, 1) := by decide +kernel
def j_X5_duel (F : Nat) (a1 : Int32) (st : sw_St) : Option Int32 :=
jn (
  some ((-1) : Int32)) (fun k1 =>
 (if a1 < 0 then (
  k1)
 else (
  (if a1 ≤ 4 then (
   (if (st.1 15 0) = 0 then (
    some ((-4) : Int32))
   else (
    bo (j_X5_duelFrom F 6 0 a1 (st.1 15 7) (st.1 15 11) st) (fun (r7 : Int32) =>
    some (r7 : Int32)))))
  else (
   k1)))))
set_option maxHeartbeats 4000000 in
set_option maxRecDepth 100000 in
theorem c_X5_duel (F : Nat) (a1 : Int32) (st : sw_St) {r : Int32} (h : j_X5_duel F a1 st = some r) : sw_CI yX5_duel (.code yX5_duel cX5_duel 2 (some .int)) 12 (fun g => [.ref (g.1 0), .int a1]) st r st := by
  refine sw_entI RX5 (fun g => [(0, .ref (g.1 0)), (1, .int a1)]) (by decide) rfl (fun _ => Nat.le_of_ble_eq_true rfl) (fun _ => rfl) ?_
  intro p l e s m args below meth c g X hr hlk
  unfold j_X5_duel at h
  refine sw_iload_n X 1 rfl rfl dX5_duel_0 ?_
  refine jn0_E (sw_V p l e 12 s m args below meth c g (sw_A g s.heap.size) (sw_QI below g args s r st) 2 9 [] [] st) h (fun h => ?_) (fun k1 J2 h => ?_)
  · refine sw_iconst X (v := (-1)) (by decide) dX5_duel_9 ?_
    exact sw_iret X hr hlk dX5_duel_10 (by cases h; rfl)
  · refine sw_if_lt X 9 (by decide) dX5_duel_1 (fun q3 => ?_) (fun q3 => ?_)
    · have h := ite_T h q3
      refine sw_sub [] rfl ?_
      exact J2  h
    · have h := ite_F h q3
      refine sw_iload_n X 1 rfl rfl dX5_duel_4 ?_
      refine sw_iconst X (v := 4) (by decide) dX5_duel_5 ?_
      refine sw_icmp_le X 11 (by decide) dX5_duel_6 (fun q4 => ?_) (fun q4 => ?_)
      · have h := ite_T h q4
        refine sw_aload_n X 0 rfl rfl dX5_duel_11 ?_
        refine sw_getR X sw_cl5 (show sw_kd 0 = 5 from rfl) (k := 4) rfl (by decide) (o1 := 15) rfl wf_X5_29 dX5_duel_12 ?_
        refine sw_getI X sw_cl4 (show sw_kd 15 = 4 from rfl) (k := 0) rfl (by decide) wf_X5_134 dX5_duel_15 ?_
        refine sw_if_ne X 24 (by decide) dX5_duel_18 (fun q5 => ?_) (fun q5 => ?_)
        · have h := ite_F h q5
          refine sw_aload_n X 0 rfl rfl dX5_duel_24 ?_
          refine sw_getR X sw_cl5 (show sw_kd 0 = 5 from rfl) (k := 4) rfl (by decide) (o1 := 15) rfl wf_X5_29 dX5_duel_25 ?_
          refine sw_iconst X (v := 0) (by decide) dX5_duel_28 ?_
          refine sw_iload_n X 1 rfl rfl dX5_duel_29 ?_
          refine sw_aload_n X 0 rfl rfl dX5_duel_30 ?_
          refine sw_getR X sw_cl5 (show sw_kd 0 = 5 from rfl) (k := 4) rfl (by decide) (o1 := 15) rfl wf_X5_29 dX5_duel_31 ?_
          refine sw_getI X sw_cl4 (show sw_kd 15 = 4 from rfl) (k := 7) rfl (by decide) wf_X5_166 dX5_duel_34 ?_
          refine sw_aload_n X 0 rfl rfl dX5_duel_37 ?_
          refine sw_getR X sw_cl5 (show sw_kd 0 = 5 from rfl) (k := 4) rfl (by decide) (o1 := 15) rfl wf_X5_29 dX5_duel_38 ?_
          refine sw_getI X sw_cl4 (show sw_kd 15 = 4 from rfl) (k := 11) rfl (by decide) wf_X5_169 dX5_duel_41 ?_
          obtain ⟨r7, c6, h⟩ := bo_E h
          refine sw_callSI X (As := (fun g => [.ref (g.1 15), .int 0, .int a1, .int (st.1 15 7), .int (st.1 15 11)])) ws_X5_duelFrom (by omega) (c_X5_duelFrom F 6 0 a1 (st.1 15 7) (st.1 15 11) st _ c6) rfl rfl (Nat.le_of_ble_eq_true rfl) wm_X5_297 dX5_duel_44 ?_
          exact sw_iret X hr hlk dX5_duel_47 (by cases h; rfl)
        · have h := ite_T h q5
          refine sw_bipush X (v := (-4)) (by decide) dX5_duel_21 ?_
          exact sw_iret X hr hlk dX5_duel_23 (by cases h; rfl)
      · have h := ite_F h q4
        refine sw_sub [] rfl ?_
        exact J2  h
theorem dX5_shut_0 : decode cX5_shut 0 = .ok (.iload_n 1, 1) := by decide +kernel
theorem dX5_shut_1 : decode cX5_shut 1 = .ok (.ifCond .eq 10, 3) := by decide +kernel
theorem dX5_shut_4 : decode cX5_shut 4 = .ok (.iload_n 1, 1) := by decide +kernel
theorem dX5_shut_5 : decode cX5_shut 5 = .ok (.iconst 1, 1) := by decide +kernel
theorem dX5_shut_6 : decode cX5_shut 6 = .ok (.if_icmp .eq 5, 3) := by decide +kernel
theorem dX5_shut_9 : decode cX5_shut 9 = .ok (.iconst (-1), 1) := by decide +kernel
theorem dX5_shut_10 : decode cX5_shut 10 = .ok (.ireturn, 1) := by decide +kernel
theorem dX5_shut_11 : decode cX5_shut 11 = .ok (.aload_n 0, 1) := by decide +kernel
theorem dX5_shut_12 : decode cX5_shut 12 = .ok (.getfield 29, 3) := by decide +kernel
theorem dX5_shut_15 : decode cX5_shut 15 = .ok (.getfield 134, 3) := by decide +kernel
theorem dX5_shut_18 : decode cX5_shut 18 = .ok (.ifCond .ne 6, 3) := by decide +kernel
theorem dX5_shut_21 : decode cX5_shut 21 = .ok (.bipush (-4), 2) := by decide +kernel
theorem dX5_shut_23 : decode cX5_shut 23 = .ok (.ireturn, 1) := by decide +kernel
theorem dX5_shut_24 : decode cX5_shut 24 = .ok (.iconst 0, 1) := by decide +kernel
theorem dX5_shut_25 : decode cX5_shut 25 = .ok (.istore_n 2, 1) := by decide +kernel
theorem dX5_shut_26 : decode cX5_shut 26 = .ok (.iconst 0, 1) := by decide +kernel
theorem dX5_shut_27 : decode cX5_shut 27 = .ok (.istore_n 3, 1) := by decide +kernel
theorem dX5_shut_28 : decode cX5_shut 28 = .ok (.iload_n 3, 1) := by decide +kernel
theorem dX5_shut_29 : decode cX5_shut 29 = .ok (.aload_n 0, 1) := by decide +kernel
theorem dX5_shut_30 : decode cX5_shut 30 = .ok (.getfield 29, 3) := by decide +kernel
theorem dX5_shut_33 : decode cX5_shut 33 = .ok (.getfield 134, 3) := by decide +kernel
theorem dX5_shut_36 : decode cX5_shut 36 = .ok (.if_icmp .ge 39, 3) := by decide +kernel
theorem dX5_shut_39 : decode cX5_shut 39 = .ok (.aload_n 0, 1) := by decide +kernel
theorem dX5_shut_40 : decode cX5_shut 40 = .ok (.getfield 29, 3) := by decide +kernel
theorem dX5_shut_43 : decode cX5_shut 43 = .ok (.iload_n 3, 1) := by decide +kernel
theorem dX5_shut_44 : decode cX5_shut 44 = .ok (.invokevirtual 156, 3) := by decide +kernel
theorem dX5_shut_47 : decode cX5_shut 47 = .ok (.ifCond .ne 22, 3) := by decide +kernel
theorem dX5_shut_50 : decode cX5_shut 50 = .ok (.aload_n 0, 1) := by decide +kernel
theorem dX5_shut_51 : decode cX5_shut 51 = .ok (.getfield 29, 3) := by decide +kernel
theorem dX5_shut_54 : decode cX5_shut 54 = .ok (.getfield 153, 3) := by decide +kernel
theorem dX5_shut_57 : decode cX5_shut 57 = .ok (.iload_n 3, 1) := by decide +kernel
theorem dX5_shut_58 : decode cX5_shut 58 = .ok (.iaload, 1) := by decide +kernel
theorem dX5_shut_59 : decode cX5_shut 59 = .ok (.iload_n 1, 1) := by decide +kernel
theorem dX5_shut_60 : decode cX5_shut 60 = .ok (.if_icmp .eq 9, 3) := by decide +kernel
theorem dX5_shut_63 : decode cX5_shut 63 = .ok (.iload_n 2, 1) := by decide +kernel
theorem dX5_shut_64 : decode cX5_shut 64 = .ok (.iconst 1, 1) := by decide +kernel
theorem dX5_shut_65 : decode cX5_shut 65 = .ok (.iload_n 3, 1) := by decide +kernel
theorem dX5_shut_66 : decode cX5_shut 66 = .ok (.ishl, 1) := by decide +kernel
theorem dX5_shut_67 : decode cX5_shut 67 = .ok (.ior, 1) := by decide +kernel
theorem dX5_shut_68 : decode cX5_shut 68 = .ok (.istore_n 2, 1) := by decide +kernel
theorem dX5_shut_69 : decode cX5_shut 69 = .ok (.iinc 3 1, 3) := by decide +kernel
theorem dX5_shut_72 : decode cX5_shut 72 = .ok (.goto (-44), 3) := by decide +kernel
theorem dX5_shut_75 : decode cX5_shut 75 = .ok (.aload_n 0, 1) := by decide +kernel
theorem dX5_shut_76 : decode cX5_shut 76 = .ok (.getfield 29, 3) := by decide +kernel
theorem dX5_shut_79 : decode cX5_shut 79 = .ok (.iload_n 2, 1) := by decide +kernel
theorem dX5_shut_80 : decode cX5_shut 80 = .ok (.invokevirtual 211, 3) := by decide +kernel
theorem dX5_shut_83 : decode cX5_shut 83 = .ok (.ireturn, 1) := by decide +kernel
def j_X5_shut (F : Nat) (a1 : Int32) (st : sw_St) : Option Int32 :=
jn (
  (if (st.1 15 0) = 0 then (
   some ((-4) : Int32))
  else (
   lz2 (fun f6 (x4 : Int32) (x5 : Int32) =>
    (if (st.1 15 0) ≤ x5 then (
     bo (j_X4_woundBySet F 15 x4 st) (fun (r10 : Int32) =>
     some (r10 : Int32)))
    else (
     bo (j_X4_isIn F 15 x5 st) (fun (r12 : Int32) =>
     jn (fun (x13 : Int32) => 
       nm (x5 + 1) (fun (x16 : Int32) =>
       f6 x13 x16)) (fun k14 =>
      (if r12 = 0 then (
       bnd x5 6 (
       (if (st.1 18 (x5 : Int32).toNatClampNeg) = a1 then (
        k14 x4)
       else (
        nm (x4 ||| (1 <<< (x5 &&& 31))) (fun (x20 : Int32) =>
        k14 x20)))))
      else (
       k14 x4))))))) F 0 0))) (fun k1 =>
 (if a1 = 0 then (
  k1)
 else (
  (if a1 = 1 then (
   k1)
  else (
   some ((-1) : Int32))))))
set_option maxHeartbeats 4000000 in
set_option maxRecDepth 100000 in
theorem c_X5_shut (F : Nat) (a1 : Int32) (st : sw_St) {r : Int32} (h : j_X5_shut F a1 st = some r) : sw_CI yX5_shut (.code yX5_shut cX5_shut 4 (some .int)) 6 (fun g => [.ref (g.1 0), .int a1]) st r st := by
  refine sw_entI RX5 (fun g => [(0, .ref (g.1 0)), (1, .int a1)]) (by decide) rfl (fun _ => Nat.le_of_ble_eq_true rfl) (fun _ => rfl) ?_
  intro p l e s m args below meth c g X hr hlk
  unfold j_X5_shut at h
  refine sw_iload_n X 1 rfl rfl dX5_shut_0 ?_
  refine jn0_E (sw_V p l e 6 s m args below meth c g (sw_A g s.heap.size) (sw_QI below g args s r st) 4 11 [(0, .ref (g.1 0)), (1, .int a1)] [] st) h (fun h => ?_) (fun k1 J2 h => ?_)
  · refine sw_aload_n X 0 rfl rfl dX5_shut_11 ?_
    refine sw_getR X sw_cl5 (show sw_kd 0 = 5 from rfl) (k := 4) rfl (by decide) (o1 := 15) rfl wf_X5_29 dX5_shut_12 ?_
    refine sw_getI X sw_cl4 (show sw_kd 15 = 4 from rfl) (k := 0) rfl (by decide) wf_X5_134 dX5_shut_15 ?_
    refine sw_if_ne X 24 (by decide) dX5_shut_18 (fun q3 => ?_) (fun q3 => ?_)
    · have h := ite_F h q3
      refine sw_iconst X (v := 0) (by decide) dX5_shut_24 ?_
      refine sw_istore_n X [(2, .int 0), (0, .ref (g.1 0)), (1, .int a1)] rfl (by decide) rfl dX5_shut_25 ?_
      refine sw_iconst X (v := 0) (by decide) dX5_shut_26 ?_
      refine sw_istore_n X [(3, .int 0), (2, .int 0), (0, .ref (g.1 0)), (1, .int a1)] rfl (by decide) rfl dX5_shut_27 ?_
      refine sw_sub [2, 3, 1, 0] rfl ?_
      refine lz2_E (fun (x4 : Int32) (x5 : Int32) => sw_V p l e 6 s m args below meth c g (sw_A g s.heap.size) (sw_QI below g args s r st) 4 28 [(0, .ref (g.1 0)), (1, .int a1), (2, .int x4), (3, .int x5)] [] st) h (fun f6 ih7 x4 x5 h => ?_)
      refine sw_iload_n X 3 rfl rfl dX5_shut_28 ?_
      refine sw_aload_n X 0 rfl rfl dX5_shut_29 ?_
      refine sw_getR X sw_cl5 (show sw_kd 0 = 5 from rfl) (k := 4) rfl (by decide) (o1 := 15) rfl wf_X5_29 dX5_shut_30 ?_
      refine sw_getI X sw_cl4 (show sw_kd 15 = 4 from rfl) (k := 0) rfl (by decide) wf_X5_134 dX5_shut_33 ?_
      refine sw_icmp_ge X 75 (by decide) dX5_shut_36 (fun q8 => ?_) (fun q8 => ?_)
      · have h := ite_T h q8
        refine sw_aload_n X 0 rfl rfl dX5_shut_75 ?_
        refine sw_getR X sw_cl5 (show sw_kd 0 = 5 from rfl) (k := 4) rfl (by decide) (o1 := 15) rfl wf_X5_29 dX5_shut_76 ?_
        refine sw_iload_n X 2 rfl rfl dX5_shut_79 ?_
        obtain ⟨r10, c9, h⟩ := bo_E h
        refine sw_callVI X (o := 15) (As := (fun g => [.int x4])) sw_cl4 (show sw_kd 15 = 4 from rfl) ws_X4_woundBySet (by omega) (c_X4_woundBySet F (show sw_kd 15 = 4 from rfl) x4 st c9) rfl rfl (Nat.le_of_ble_eq_true rfl) wm_X5_211 dX5_shut_80 ?_
        exact sw_iret X hr hlk dX5_shut_83 (by cases h; rfl)
      · have h := ite_F h q8
        refine sw_aload_n X 0 rfl rfl dX5_shut_39 ?_
        refine sw_getR X sw_cl5 (show sw_kd 0 = 5 from rfl) (k := 4) rfl (by decide) (o1 := 15) rfl wf_X5_29 dX5_shut_40 ?_
        refine sw_iload_n X 3 rfl rfl dX5_shut_43 ?_
        obtain ⟨r12, c11, h⟩ := bo_E h
        refine sw_callVI X (o := 15) (As := (fun g => [.int x5])) sw_cl4 (show sw_kd 15 = 4 from rfl) ws_X4_isIn (by omega) (c_X4_isIn F (show sw_kd 15 = 4 from rfl) x5 st c11) rfl rfl (Nat.le_of_ble_eq_true rfl) wm_X5_156 dX5_shut_44 ?_
        refine jn1_E (fun (x13 : Int32) => sw_V p l e 6 s m args below meth c g (sw_A g s.heap.size) (sw_QI below g args s r st) 4 69 [(0, .ref (g.1 0)), (1, .int a1), (2, .int x13), (3, .int x5)] [] st) h (fun x13 h => ?_) (fun k14 J15 h => ?_)
        · obtain ⟨x16, ex16⟩ : ∃ y : Int32, y = x5 + 1 := ⟨_, rfl⟩
          have h := nm_E h ex16
          refine sw_iinc X 3 x16 [(3, .int x16), (0, .ref (g.1 0)), (1, .int a1), (2, .int x13)] rfl (by rw [ex16]; rfl) (by decide) rfl dX5_shut_69 ?_
          refine sw_goto X 28 (by decide) dX5_shut_72 ?_
          refine sw_sub [1, 2, 3, 0] rfl ?_
          exact ih7 _ _ h
        · refine sw_if_ne X 69 (by decide) dX5_shut_47 (fun q17 => ?_) (fun q17 => ?_)
          · have h := ite_F h q17
            exact J15 _ h
          · have h := ite_T h q17
            refine sw_aload_n X 0 rfl rfl dX5_shut_50 ?_
            refine sw_getR X sw_cl5 (show sw_kd 0 = 5 from rfl) (k := 4) rfl (by decide) (o1 := 15) rfl wf_X5_29 dX5_shut_51 ?_
            refine sw_getR X sw_cl4 (show sw_kd 15 = 4 from rfl) (k := 3) rfl (by decide) (o1 := 18) rfl wf_X5_153 dX5_shut_54 ?_
            refine sw_iload_n X 3 rfl rfl dX5_shut_57 ?_
            obtain ⟨q18, h⟩ := bnd_E h
            refine sw_iald X (show sw_kd 18 = 8 from rfl) (n := 6) rfl q18 dX5_shut_58 ?_
            refine sw_iload_n X 1 rfl rfl dX5_shut_59 ?_
            refine sw_icmp_eq X 69 (by decide) dX5_shut_60 (fun q19 => ?_) (fun q19 => ?_)
            · have h := ite_T h q19
              exact J15 _ h
            · have h := ite_F h q19
              refine sw_iload_n X 2 rfl rfl dX5_shut_63 ?_
              refine sw_iconst X (v := 1) (by decide) dX5_shut_64 ?_
              refine sw_iload_n X 3 rfl rfl dX5_shut_65 ?_
              refine sw_ishl X dX5_shut_66 ?_
              refine sw_ior X dX5_shut_67 ?_
              refine sw_topi (fun x20 ex20 => ?_)
              have h := nm_E h ex20
              refine sw_istore_n X [(2, .int x20), (0, .ref (g.1 0)), (1, .int a1), (3, .int x5)] rfl (by decide) rfl dX5_shut_68 ?_
              refine sw_sub [1, 2, 0, 3] rfl ?_
              exact J15 _ h
    · have h := ite_T h q3
      refine sw_bipush X (v := (-4)) (by decide) dX5_shut_21 ?_
      exact sw_iret X hr hlk dX5_shut_23 (by cases h; rfl)
  · refine sw_if_eq X 11 (by decide) dX5_shut_1 (fun q21 => ?_) (fun q21 => ?_)
    · have h := ite_T h q21
      exact J2  h
    · have h := ite_F h q21
      refine sw_iload_n X 1 rfl rfl dX5_shut_4 ?_
      refine sw_iconst X (v := 1) (by decide) dX5_shut_5 ?_
      refine sw_icmp_eq X 11 (by decide) dX5_shut_6 (fun q22 => ?_) (fun q22 => ?_)
      · have h := ite_T h q22
        exact J2  h
      · have h := ite_F h q22
        refine sw_iconst X (v := (-1)) (by decide) dX5_shut_9 ?_
        exact sw_iret X hr hlk dX5_shut_10 (by cases h; rfl)
