theorem dX5_wound_0 : decode cX5_wound 0 = .ok (.aload_n 0, 1) := by decide +kernel
theorem dX5_wound_1 : decode cX5_wound 1 = .ok (.iload_n 1, 1) := by decide +kernel
theorem dX5_wound_2 : decode cX5_wound 2 = .ok (.bipush 6, 2) := by decide +kernel
theorem dX5_wound_4 : decode cX5_wound 4 = .ok (.iconst 0, 1) := by decide +kernel
theorem dX5_wound_5 : decode cX5_wound 5 = .ok (.invokevirtual 196, 3) := by decide +kernel
theorem dX5_wound_8 : decode cX5_wound 8 = .ok (.istore_n 2, 1) := by decide +kernel
theorem dX5_wound_9 : decode cX5_wound 9 = .ok (.iload_n 2, 1) := by decide +kernel
theorem dX5_wound_10 : decode cX5_wound 10 = .ok (.ifCond .eq 5, 3) := by decide +kernel
theorem dX5_wound_13 : decode cX5_wound 13 = .ok (.iload_n 2, 1) := by decide +kernel
theorem dX5_wound_14 : decode cX5_wound 14 = .ok (.ireturn, 1) := by decide +kernel
theorem dX5_wound_15 : decode cX5_wound 15 = .ok (.aload_n 0, 1) := by decide +kernel
theorem dX5_wound_16 : decode cX5_wound 16 = .ok (.getfield 29, 3) := by decide +kernel
theorem dX5_wound_19 : decode cX5_wound 19 = .ok (.getfield 166, 3) := by decide +kernel
theorem dX5_wound_22 : decode cX5_wound 22 = .ok (.istore_n 3, 1) := by decide +kernel
theorem dX5_wound_23 : decode cX5_wound 23 = .ok (.aload_n 0, 1) := by decide +kernel
theorem dX5_wound_24 : decode cX5_wound 24 = .ok (.getfield 29, 3) := by decide +kernel
theorem dX5_wound_27 : decode cX5_wound 27 = .ok (.getfield 169, 3) := by decide +kernel
theorem dX5_wound_30 : decode cX5_wound 30 = .ok (.istore 4, 2) := by decide +kernel
theorem dX5_wound_32 : decode cX5_wound 32 = .ok (.iconst 0, 1) := by decide +kernel
theorem dX5_wound_33 : decode cX5_wound 33 = .ok (.istore 5, 2) := by decide +kernel
theorem dX5_wound_35 : decode cX5_wound 35 = .ok (.iconst 0, 1) := by decide +kernel
theorem dX5_wound_36 : decode cX5_wound 36 = .ok (.istore 6, 2) := by decide +kernel
theorem dX5_wound_38 : decode cX5_wound 38 = .ok (.iload 6, 2) := by decide +kernel
theorem dX5_wound_40 : decode cX5_wound 40 = .ok (.aload_n 0, 1) := by decide +kernel
theorem dX5_wound_41 : decode cX5_wound 41 = .ok (.getfield 14, 3) := by decide +kernel
theorem dX5_wound_44 : decode cX5_wound 44 = .ok (.iload_n 1, 1) := by decide +kernel
theorem dX5_wound_45 : decode cX5_wound 45 = .ok (.iaload, 1) := by decide +kernel
theorem dX5_wound_46 : decode cX5_wound 46 = .ok (.if_icmp .ge 57, 3) := by decide +kernel
theorem dX5_wound_49 : decode cX5_wound 49 = .ok (.aload_n 0, 1) := by decide +kernel
theorem dX5_wound_50 : decode cX5_wound 50 = .ok (.getfield 11, 3) := by decide +kernel
theorem dX5_wound_53 : decode cX5_wound 53 = .ok (.iload_n 1, 1) := by decide +kernel
theorem dX5_wound_54 : decode cX5_wound 54 = .ok (.aaload, 1) := by decide +kernel
theorem dX5_wound_55 : decode cX5_wound 55 = .ok (.iload 6, 2) := by decide +kernel
theorem dX5_wound_57 : decode cX5_wound 57 = .ok (.iaload, 1) := by decide +kernel
theorem dX5_wound_58 : decode cX5_wound 58 = .ok (.istore 7, 2) := by decide +kernel
theorem dX5_wound_60 : decode cX5_wound 60 = .ok (.aload_n 0, 1) := by decide +kernel
theorem dX5_wound_61 : decode cX5_wound 61 = .ok (.getfield 29, 3) := by decide +kernel
theorem dX5_wound_64 : decode cX5_wound 64 = .ok (.iload 7, 2) := by decide +kernel
theorem dX5_wound_66 : decode cX5_wound 66 = .ok (.iload_n 3, 1) := by decide +kernel
theorem dX5_wound_67 : decode cX5_wound 67 = .ok (.iload 4, 2) := by decide +kernel
theorem dX5_wound_69 : decode cX5_wound 69 = .ok (.invokevirtual 200, 3) := by decide +kernel
theorem dX5_wound_72 : decode cX5_wound 72 = .ok (.istore_n 3, 1) := by decide +kernel
theorem dX5_wound_73 : decode cX5_wound 73 = .ok (.iload 4, 2) := by decide +kernel
theorem dX5_wound_75 : decode cX5_wound 75 = .ok (.iconst 1, 1) := by decide +kernel
theorem dX5_wound_76 : decode cX5_wound 76 = .ok (.iload 7, 2) := by decide +kernel
theorem dX5_wound_78 : decode cX5_wound 78 = .ok (.ishl, 1) := by decide +kernel
theorem dX5_wound_79 : decode cX5_wound 79 = .ok (.ior, 1) := by decide +kernel
theorem dX5_wound_80 : decode cX5_wound 80 = .ok (.istore 4, 2) := by decide +kernel
theorem dX5_wound_82 : decode cX5_wound 82 = .ok (.iload 5, 2) := by decide +kernel
theorem dX5_wound_84 : decode cX5_wound 84 = .ok (.aload_n 0, 1) := by decide +kernel
theorem dX5_wound_85 : decode cX5_wound 85 = .ok (.getfield 29, 3) := by decide +kernel
theorem dX5_wound_88 : decode cX5_wound 88 = .ok (.getfield 204, 3) := by decide +kernel
theorem dX5_wound_91 : decode cX5_wound 91 = .ok (.iload 7, 2) := by decide +kernel
theorem dX5_wound_93 : decode cX5_wound 93 = .ok (.iaload, 1) := by decide +kernel
theorem dX5_wound_94 : decode cX5_wound 94 = .ok (.iadd, 1) := by decide +kernel
theorem dX5_wound_95 : decode cX5_wound 95 = .ok (.istore 5, 2) := by decide +kernel
theorem dX5_wound_97 : decode cX5_wound 97 = .ok (.iinc 6 1, 3) := by decide +kernel
theorem dX5_wound_100 : decode cX5_wound 100 = .ok (.goto (-62), 3) := by decide +kernel
theorem dX5_wound_103 : decode cX5_wound 103 = .ok (.aload_n 0, 1) := by decide +kernel
theorem dX5_wound_104 : decode cX5_wound 104 = .ok (.iload 5, 2) := by decide +kernel
theorem dX5_wound_106 : decode cX5_wound 106 = .ok (.putfield 79, 3) := by decide +kernel
theorem dX5_wound_109 : decode cX5_wound 109 = .ok (.iload_n 3, 1) := by decide +kernel
theorem dX5_wound_110 : decode cX5_wound 110 = .ok (.ireturn, 1) := by decide +kernel
def j_X5_wound (F : Nat) (a1 : Int32) (st : sw_St) : Option (Int32 × sw_St) :=
bd (j_X5_refusedGuests F a1 6 0 st) (fun (r2 : Int32) (s3 : sw_St) =>
(if r2 = 0 then (
 nm (s3.1 15 7) (fun (x5 : Int32) =>
 nm (s3.1 15 11) (fun (x6 : Int32) =>
 lz4 (fun f11 (x7 : Int32) (x8 : Int32) (x9 : Int32) (x10 : Int32) =>
  bnd a1 6 (
  (if (s3.1 8 (a1 : Int32).toNatClampNeg) ≤ x10 then (
   nm (sw_setC s3 0 14 x9) (fun (s15 : sw_St) =>
   some ((x7 : Int32), s15)))
  else (
   bnd a1 6 (
   bnd x10 40 (
   nm (s3.1 (2 + (a1 : Int32).toNatClampNeg) (x10 : Int32).toNatClampNeg) (fun (x18 : Int32) =>
   bo (j_X4_woundBy F 15 x18 x7 x8 s3) (fun (r20 : Int32) =>
   nm (x8 ||| (1 <<< (x18 &&& 31))) (fun (x21 : Int32) =>
   bnd x18 6 (
   nm (x9 + (s3.1 19 (x18 : Int32).toNatClampNeg)) (fun (x23 : Int32) =>
   nm (x10 + 1) (fun (x24 : Int32) =>
   f11 r20 x21 x23 x24)))))))))))) F x5 x6 0 0)))
else (
 some ((r2 : Int32), s3))))
set_option maxHeartbeats 4000000 in
set_option maxRecDepth 100000 in
theorem c_X5_wound (F : Nat) (a1 : Int32) (st : sw_St) {r : Int32} {st1 : sw_St} (h : j_X5_wound F a1 st = some (r, st1)) : sw_CI yX5_wound (.code yX5_wound cX5_wound 8 (some .int)) 5 (fun g => [.ref (g.1 0), .int a1]) st r st1 := by
  refine sw_entI RX5 (fun g => [(0, .ref (g.1 0)), (1, .int a1)]) (by decide) rfl (fun _ => Nat.le_of_ble_eq_true rfl) (fun _ => rfl) ?_
  intro p l e s m args below meth c g X hr hlk
  unfold j_X5_wound at h
  refine sw_aload_n X 0 rfl rfl dX5_wound_0 ?_
  refine sw_iload_n X 1 rfl rfl dX5_wound_1 ?_
  refine sw_bipush X (v := 6) (by decide) dX5_wound_2 ?_
  refine sw_iconst X (v := 0) (by decide) dX5_wound_4 ?_
  obtain ⟨r2, s3, c1, h⟩ := bd_E h
  refine sw_callVI X (o := 0) (As := (fun g => [.int a1, .int 6, .int 0])) sw_cl5 (show sw_kd 0 = 5 from rfl) ws_X5_refusedGuests (by omega) (c_X5_refusedGuests F a1 6 0 st c1) rfl rfl (Nat.le_of_ble_eq_true rfl) wm_X5_196 dX5_wound_5 ?_
  refine sw_istore_n X [(2, .int r2), (0, .ref (g.1 0)), (1, .int a1)] rfl (by decide) rfl dX5_wound_8 ?_
  refine sw_iload_n X 0 rfl rfl dX5_wound_9 ?_
  refine sw_if_eq X 15 (by decide) dX5_wound_10 (fun q4 => ?_) (fun q4 => ?_)
  · have h := ite_T h q4
    refine sw_aload_n X 1 rfl rfl dX5_wound_15 ?_
    refine sw_getR X sw_cl5 (show sw_kd 0 = 5 from rfl) (k := 4) rfl (by decide) (o1 := 15) rfl wf_X5_29 dX5_wound_16 ?_
    refine sw_getI X sw_cl4 (show sw_kd 15 = 4 from rfl) (k := 7) rfl (by decide) wf_X5_166 dX5_wound_19 ?_
    refine sw_topi (fun x5 ex5 => ?_)
    have h := nm_E h ex5
    refine sw_istore_n X [(3, .int x5), (2, .int r2), (0, .ref (g.1 0)), (1, .int a1)] rfl (by decide) rfl dX5_wound_22 ?_
    refine sw_aload_n X 2 rfl rfl dX5_wound_23 ?_
    refine sw_getR X sw_cl5 (show sw_kd 0 = 5 from rfl) (k := 4) rfl (by decide) (o1 := 15) rfl wf_X5_29 dX5_wound_24 ?_
    refine sw_getI X sw_cl4 (show sw_kd 15 = 4 from rfl) (k := 11) rfl (by decide) wf_X5_169 dX5_wound_27 ?_
    refine sw_topi (fun x6 ex6 => ?_)
    have h := nm_E h ex6
    refine sw_istore X [(4, .int x6), (3, .int x5), (2, .int r2), (0, .ref (g.1 0)), (1, .int a1)] (by decide) rfl dX5_wound_30 ?_
    refine sw_iconst X (v := 0) (by decide) dX5_wound_32 ?_
    refine sw_istore X [(5, .int 0), (4, .int x6), (3, .int x5), (2, .int r2), (0, .ref (g.1 0)), (1, .int a1)] (by decide) rfl dX5_wound_33 ?_
    refine sw_iconst X (v := 0) (by decide) dX5_wound_35 ?_
    refine sw_istore X [(6, .int 0), (5, .int 0), (4, .int x6), (3, .int x5), (2, .int r2), (0, .ref (g.1 0)), (1, .int a1)] (by decide) rfl dX5_wound_36 ?_
    refine sw_sub [5, 6, 3, 2, 1, 0] rfl ?_
    refine lz4_E (fun (x7 : Int32) (x8 : Int32) (x9 : Int32) (x10 : Int32) => sw_V p l e 5 s m args below meth c g (sw_A g s.heap.size) (sw_QI below g args s r st1) 8 38 [(0, .ref (g.1 0)), (1, .int a1), (3, .int x7), (4, .int x8), (5, .int x9), (6, .int x10)] [] s3) h (fun f11 ih12 x7 x8 x9 x10 h => ?_)
    refine sw_iload X 5 rfl dX5_wound_38 ?_
    refine sw_aload_n X 0 rfl rfl dX5_wound_40 ?_
    refine sw_getR X sw_cl5 (show sw_kd 0 = 5 from rfl) (k := 1) rfl (by decide) (o1 := 8) rfl wf_X5_14 dX5_wound_41 ?_
    refine sw_iload_n X 1 rfl rfl dX5_wound_44 ?_
    obtain ⟨q13, h⟩ := bnd_E h
    refine sw_iald X (show sw_kd 8 = 8 from rfl) (n := 6) rfl q13 dX5_wound_45 ?_
    refine sw_icmp_ge X 103 (by decide) dX5_wound_46 (fun q14 => ?_) (fun q14 => ?_)
    · have h := ite_T h q14
      refine sw_aload_n X 0 rfl rfl dX5_wound_103 ?_
      refine sw_iload X 4 rfl dX5_wound_104 ?_
      refine sw_putI X sw_cl5 (show sw_kd 0 = 5 from rfl) (k := 14) rfl (by decide) rfl rfl wf_X5_79 dX5_wound_106 (fun s15 es15 => ?_)
      have h := nm_E h es15
      refine sw_iload_n X 2 rfl rfl dX5_wound_109 ?_
      exact sw_iret X hr hlk dX5_wound_110 h
    · have h := ite_F h q14
      refine sw_aload_n X 0 rfl rfl dX5_wound_49 ?_
      refine sw_getR X sw_cl5 (show sw_kd 0 = 5 from rfl) (k := 0) rfl (by decide) (o1 := 1) rfl wf_X5_11 dX5_wound_50 ?_
      refine sw_iload_n X 1 rfl rfl dX5_wound_53 ?_
      obtain ⟨q16, h⟩ := bnd_E h
      refine sw_aaldI X (show sw_kd 1 = 12 from rfl) (n := 6) rfl q16 (a1 := 2 + (a1 : Int32).toNatClampNeg) rfl dX5_wound_54 ?_
      refine sw_iload X 5 rfl dX5_wound_55 ?_
      obtain ⟨q17, h⟩ := bnd_E h
      refine sw_iald X (show sw_kd (2 + (a1 : Int32).toNatClampNeg) = 8 from (sw_rk q16)) (n := 40) (sw_rn q16) q17 dX5_wound_57 ?_
      refine sw_topi (fun x18 ex18 => ?_)
      have h := nm_E h ex18
      refine sw_istore X [(7, .int x18), (0, .ref (g.1 0)), (1, .int a1), (3, .int x7), (4, .int x8), (5, .int x9), (6, .int x10)] (by decide) rfl dX5_wound_58 ?_
      refine sw_aload_n X 1 rfl rfl dX5_wound_60 ?_
      refine sw_getR X sw_cl5 (show sw_kd 0 = 5 from rfl) (k := 4) rfl (by decide) (o1 := 15) rfl wf_X5_29 dX5_wound_61 ?_
      refine sw_iload X 0 rfl dX5_wound_64 ?_
      refine sw_iload_n X 3 rfl rfl dX5_wound_66 ?_
      refine sw_iload X 4 rfl dX5_wound_67 ?_
      obtain ⟨r20, c19, h⟩ := bo_E h
      refine sw_callVI X (o := 15) (As := (fun g => [.int x18, .int x7, .int x8])) sw_cl4 (show sw_kd 15 = 4 from rfl) ws_X4_woundBy (by omega) (c_X4_woundBy F (show sw_kd 15 = 4 from rfl) x18 x7 x8 s3 c19) rfl rfl (Nat.le_of_ble_eq_true rfl) wm_X5_200 dX5_wound_69 ?_
      refine sw_istore_n X [(3, .int r20), (7, .int x18), (0, .ref (g.1 0)), (1, .int a1), (4, .int x8), (5, .int x9), (6, .int x10)] rfl (by decide) rfl dX5_wound_72 ?_
      refine sw_iload X 4 rfl dX5_wound_73 ?_
      refine sw_iconst X (v := 1) (by decide) dX5_wound_75 ?_
      refine sw_iload X 1 rfl dX5_wound_76 ?_
      refine sw_ishl X dX5_wound_78 ?_
      refine sw_ior X dX5_wound_79 ?_
      refine sw_topi (fun x21 ex21 => ?_)
      have h := nm_E h ex21
      refine sw_istore X [(4, .int x21), (3, .int r20), (7, .int x18), (0, .ref (g.1 0)), (1, .int a1), (5, .int x9), (6, .int x10)] (by decide) rfl dX5_wound_80 ?_
      refine sw_iload X 5 rfl dX5_wound_82 ?_
      refine sw_aload_n X 3 rfl rfl dX5_wound_84 ?_
      refine sw_getR X sw_cl5 (show sw_kd 0 = 5 from rfl) (k := 4) rfl (by decide) (o1 := 15) rfl wf_X5_29 dX5_wound_85 ?_
      refine sw_getR X sw_cl4 (show sw_kd 15 = 4 from rfl) (k := 4) rfl (by decide) (o1 := 19) rfl wf_X5_204 dX5_wound_88 ?_
      refine sw_iload X 2 rfl dX5_wound_91 ?_
      obtain ⟨q22, h⟩ := bnd_E h
      refine sw_iald X (show sw_kd 19 = 8 from rfl) (n := 6) rfl q22 dX5_wound_93 ?_
      refine sw_iadd X dX5_wound_94 ?_
      refine sw_topi (fun x23 ex23 => ?_)
      have h := nm_E h ex23
      refine sw_istore X [(5, .int x23), (4, .int x21), (3, .int r20), (7, .int x18), (0, .ref (g.1 0)), (1, .int a1), (6, .int x10)] (by decide) rfl dX5_wound_95 ?_
      obtain ⟨x24, ex24⟩ : ∃ y : Int32, y = x10 + 1 := ⟨_, rfl⟩
      have h := nm_E h ex24
      refine sw_iinc X 6 x24 [(6, .int x24), (5, .int x23), (4, .int x21), (3, .int r20), (7, .int x18), (0, .ref (g.1 0)), (1, .int a1)] rfl (by rw [ex24]; rfl) (by decide) rfl dX5_wound_97 ?_
      refine sw_goto X 38 (by decide) dX5_wound_100 ?_
      refine sw_sub [5, 6, 3, 2, 1, 0] rfl ?_
      exact ih12 _ _ _ _ h
  · have h := ite_F h q4
    refine sw_iload_n X 0 rfl rfl dX5_wound_13 ?_
    exact sw_iret X hr hlk dX5_wound_14 h
theorem dX5_most_0 : decode cX5_most 0 = .ok (.aload_n 0, 1) := by decide +kernel
theorem dX5_most_1 : decode cX5_most 1 = .ok (.getfield 29, 3) := by decide +kernel
theorem dX5_most_4 : decode cX5_most 4 = .ok (.getfield 134, 3) := by decide +kernel
theorem dX5_most_7 : decode cX5_most 7 = .ok (.ifCond .ne 6, 3) := by decide +kernel
theorem dX5_most_10 : decode cX5_most 10 = .ok (.bipush (-4), 2) := by decide +kernel
theorem dX5_most_12 : decode cX5_most 12 = .ok (.ireturn, 1) := by decide +kernel
theorem dX5_most_13 : decode cX5_most 13 = .ok (.aload_n 0, 1) := by decide +kernel
theorem dX5_most_14 : decode cX5_most 14 = .ok (.getfield 29, 3) := by decide +kernel
theorem dX5_most_17 : decode cX5_most 17 = .ok (.getfield 166, 3) := by decide +kernel
theorem dX5_most_20 : decode cX5_most 20 = .ok (.istore_n 1, 1) := by decide +kernel
theorem dX5_most_21 : decode cX5_most 21 = .ok (.iconst 0, 1) := by decide +kernel
theorem dX5_most_22 : decode cX5_most 22 = .ok (.istore_n 2, 1) := by decide +kernel
theorem dX5_most_23 : decode cX5_most 23 = .ok (.iconst 1, 1) := by decide +kernel
theorem dX5_most_24 : decode cX5_most 24 = .ok (.istore_n 3, 1) := by decide +kernel
theorem dX5_most_25 : decode cX5_most 25 = .ok (.iload_n 3, 1) := by decide +kernel
theorem dX5_most_26 : decode cX5_most 26 = .ok (.aload_n 0, 1) := by decide +kernel
theorem dX5_most_27 : decode cX5_most 27 = .ok (.getfield 29, 3) := by decide +kernel
theorem dX5_most_30 : decode cX5_most 30 = .ok (.invokevirtual 207, 3) := by decide +kernel
theorem dX5_most_33 : decode cX5_most 33 = .ok (.if_icmp .ge 42, 3) := by decide +kernel
theorem dX5_most_36 : decode cX5_most 36 = .ok (.aload_n 0, 1) := by decide +kernel
theorem dX5_most_37 : decode cX5_most 37 = .ok (.getfield 29, 3) := by decide +kernel
theorem dX5_most_40 : decode cX5_most 40 = .ok (.iload_n 3, 1) := by decide +kernel
theorem dX5_most_41 : decode cX5_most 41 = .ok (.invokevirtual 211, 3) := by decide +kernel
theorem dX5_most_44 : decode cX5_most 44 = .ok (.istore 4, 2) := by decide +kernel
theorem dX5_most_46 : decode cX5_most 46 = .ok (.iload_n 3, 1) := by decide +kernel
theorem dX5_most_47 : decode cX5_most 47 = .ok (.aload_n 0, 1) := by decide +kernel
theorem dX5_most_48 : decode cX5_most 48 = .ok (.getfield 29, 3) := by decide +kernel
theorem dX5_most_51 : decode cX5_most 51 = .ok (.getfield 169, 3) := by decide +kernel
theorem dX5_most_54 : decode cX5_most 54 = .ok (.iand, 1) := by decide +kernel
theorem dX5_most_55 : decode cX5_most 55 = .ok (.ifCond .ne 14, 3) := by decide +kernel
theorem dX5_most_58 : decode cX5_most 58 = .ok (.iload 4, 2) := by decide +kernel
theorem dX5_most_60 : decode cX5_most 60 = .ok (.iload_n 1, 1) := by decide +kernel
theorem dX5_most_61 : decode cX5_most 61 = .ok (.if_icmp .le 8, 3) := by decide +kernel
theorem dX5_most_64 : decode cX5_most 64 = .ok (.iload 4, 2) := by decide +kernel
theorem dX5_most_66 : decode cX5_most 66 = .ok (.istore_n 1, 1) := by decide +kernel
theorem dX5_most_67 : decode cX5_most 67 = .ok (.iload_n 3, 1) := by decide +kernel
theorem dX5_most_68 : decode cX5_most 68 = .ok (.istore_n 2, 1) := by decide +kernel
theorem dX5_most_69 : decode cX5_most 69 = .ok (.iinc 3 1, 3) := by decide +kernel
theorem dX5_most_72 : decode cX5_most 72 = .ok (.goto (-47), 3) := by decide +kernel
theorem dX5_most_75 : decode cX5_most 75 = .ok (.aload_n 0, 1) := by decide +kernel
theorem dX5_most_76 : decode cX5_most 76 = .ok (.iload_n 2, 1) := by decide +kernel
theorem dX5_most_77 : decode cX5_most 77 = .ok (.putfield 79, 3) := by decide +kernel
theorem dX5_most_80 : decode cX5_most 80 = .ok (.iload_n 1, 1) := by decide +kernel
theorem dX5_most_81 : decode cX5_most 81 = .ok (.ireturn, 1) := by decide +kernel
def j_X5_most (F : Nat) (st : sw_St) : Option (Int32 × sw_St) :=
(if (st.1 15 0) = 0 then (
 some (((-4) : Int32), st))
else (
 nm (st.1 15 7) (fun (x2 : Int32) =>
 lz3 (fun f6 (x3 : Int32) (x4 : Int32) (x5 : Int32) =>
  bo (j_X4_sets F 15 st) (fun (r9 : Int32) =>
  (if r9 ≤ x5 then (
   nm (sw_setC st 0 14 x4) (fun (s11 : sw_St) =>
   some ((x3 : Int32), s11)))
  else (
   bo (j_X4_woundBySet F 15 x5 st) (fun (r13 : Int32) =>
   jn (fun (x14 : Int32) (x15 : Int32) => 
     nm (x5 + 1) (fun (x18 : Int32) =>
     f6 x14 x15 x18)) (fun k16 =>
    (if (x5 &&& (st.1 15 11)) = 0 then (
     (if r13 ≤ x3 then (
      k16 x3 x4)
     else (
      k16 r13 x5)))
    else (
     k16 x3 x4)))))))) F x2 0 1)))
set_option maxHeartbeats 4000000 in
set_option maxRecDepth 100000 in
theorem c_X5_most (F : Nat) (st : sw_St) {r : Int32} {st1 : sw_St} (h : j_X5_most F  st = some (r, st1)) : sw_CI yX5_most (.code yX5_most cX5_most 5 (some .int)) 6 (fun g => [.ref (g.1 0)]) st r st1 := by
  refine sw_entI RX5 (fun g => [(0, .ref (g.1 0))]) (by decide) rfl (fun _ => Nat.le_of_ble_eq_true rfl) (fun _ => rfl) ?_
  intro p l e s m args below meth c g X hr hlk
  unfold j_X5_most at h
  refine sw_aload_n X 0 rfl rfl dX5_most_0 ?_
  refine sw_getR X sw_cl5 (show sw_kd 0 = 5 from rfl) (k := 4) rfl (by decide) (o1 := 15) rfl wf_X5_29 dX5_most_1 ?_
  refine sw_getI X sw_cl4 (show sw_kd 15 = 4 from rfl) (k := 0) rfl (by decide) wf_X5_134 dX5_most_4 ?_
  refine sw_if_ne X 13 (by decide) dX5_most_7 (fun q1 => ?_) (fun q1 => ?_)
  · have h := ite_F h q1
    refine sw_aload_n X 0 rfl rfl dX5_most_13 ?_
    refine sw_getR X sw_cl5 (show sw_kd 0 = 5 from rfl) (k := 4) rfl (by decide) (o1 := 15) rfl wf_X5_29 dX5_most_14 ?_
    refine sw_getI X sw_cl4 (show sw_kd 15 = 4 from rfl) (k := 7) rfl (by decide) wf_X5_166 dX5_most_17 ?_
    refine sw_topi (fun x2 ex2 => ?_)
    have h := nm_E h ex2
    refine sw_istore_n X [(1, .int x2), (0, .ref (g.1 0))] rfl (by decide) rfl dX5_most_20 ?_
    refine sw_iconst X (v := 0) (by decide) dX5_most_21 ?_
    refine sw_istore_n X [(2, .int 0), (1, .int x2), (0, .ref (g.1 0))] rfl (by decide) rfl dX5_most_22 ?_
    refine sw_iconst X (v := 1) (by decide) dX5_most_23 ?_
    refine sw_istore_n X [(3, .int 1), (2, .int 0), (1, .int x2), (0, .ref (g.1 0))] rfl (by decide) rfl dX5_most_24 ?_
    refine sw_sub [3, 2, 1, 0] rfl ?_
    refine lz3_E (fun (x3 : Int32) (x4 : Int32) (x5 : Int32) => sw_V p l e 6 s m args below meth c g (sw_A g s.heap.size) (sw_QI below g args s r st1) 5 25 [(0, .ref (g.1 0)), (1, .int x3), (2, .int x4), (3, .int x5)] [] st) h (fun f6 ih7 x3 x4 x5 h => ?_)
    refine sw_iload_n X 3 rfl rfl dX5_most_25 ?_
    refine sw_aload_n X 0 rfl rfl dX5_most_26 ?_
    refine sw_getR X sw_cl5 (show sw_kd 0 = 5 from rfl) (k := 4) rfl (by decide) (o1 := 15) rfl wf_X5_29 dX5_most_27 ?_
    obtain ⟨r9, c8, h⟩ := bo_E h
    refine sw_callVI X (o := 15) (As := (fun g => [])) sw_cl4 (show sw_kd 15 = 4 from rfl) ws_X4_sets (by omega) (c_X4_sets F (show sw_kd 15 = 4 from rfl) st c8) rfl rfl (Nat.le_of_ble_eq_true rfl) wm_X5_207 dX5_most_30 ?_
    refine sw_icmp_ge X 75 (by decide) dX5_most_33 (fun q10 => ?_) (fun q10 => ?_)
    · have h := ite_T h q10
      refine sw_aload_n X 0 rfl rfl dX5_most_75 ?_
      refine sw_iload_n X 2 rfl rfl dX5_most_76 ?_
      refine sw_putI X sw_cl5 (show sw_kd 0 = 5 from rfl) (k := 14) rfl (by decide) rfl rfl wf_X5_79 dX5_most_77 (fun s11 es11 => ?_)
      have h := nm_E h es11
      refine sw_iload_n X 1 rfl rfl dX5_most_80 ?_
      exact sw_iret X hr hlk dX5_most_81 h
    · have h := ite_F h q10
      refine sw_aload_n X 0 rfl rfl dX5_most_36 ?_
      refine sw_getR X sw_cl5 (show sw_kd 0 = 5 from rfl) (k := 4) rfl (by decide) (o1 := 15) rfl wf_X5_29 dX5_most_37 ?_
      refine sw_iload_n X 3 rfl rfl dX5_most_40 ?_
      obtain ⟨r13, c12, h⟩ := bo_E h
      refine sw_callVI X (o := 15) (As := (fun g => [.int x5])) sw_cl4 (show sw_kd 15 = 4 from rfl) ws_X4_woundBySet (by omega) (c_X4_woundBySet F (show sw_kd 15 = 4 from rfl) x5 st c12) rfl rfl (Nat.le_of_ble_eq_true rfl) wm_X5_211 dX5_most_41 ?_
      refine sw_istore X [(4, .int r13), (0, .ref (g.1 0)), (1, .int x3), (2, .int x4), (3, .int x5)] (by decide) rfl dX5_most_44 ?_
      refine sw_iload_n X 4 rfl rfl dX5_most_46 ?_
      refine sw_aload_n X 1 rfl rfl dX5_most_47 ?_
      refine sw_getR X sw_cl5 (show sw_kd 0 = 5 from rfl) (k := 4) rfl (by decide) (o1 := 15) rfl wf_X5_29 dX5_most_48 ?_
      refine sw_getI X sw_cl4 (show sw_kd 15 = 4 from rfl) (k := 11) rfl (by decide) wf_X5_169 dX5_most_51 ?_
      refine sw_iand X dX5_most_54 ?_
      refine jn2_E (fun (x14 : Int32) (x15 : Int32) => sw_V p l e 6 s m args below meth c g (sw_A g s.heap.size) (sw_QI below g args s r st1) 5 69 [(0, .ref (g.1 0)), (1, .int x14), (2, .int x15), (3, .int x5)] [] st) h (fun x14 x15 h => ?_) (fun k16 J17 h => ?_)
      · obtain ⟨x18, ex18⟩ : ∃ y : Int32, y = x5 + 1 := ⟨_, rfl⟩
        have h := nm_E h ex18
        refine sw_iinc X 3 x18 [(3, .int x18), (0, .ref (g.1 0)), (1, .int x14), (2, .int x15)] rfl (by rw [ex18]; rfl) (by decide) rfl dX5_most_69 ?_
        refine sw_goto X 25 (by decide) dX5_most_72 ?_
        refine sw_sub [1, 2, 3, 0] rfl ?_
        exact ih7 _ _ _ h
      · refine sw_if_ne X 69 (by decide) dX5_most_55 (fun q19 => ?_) (fun q19 => ?_)
        · have h := ite_F h q19
          refine sw_sub [1, 2, 3, 4] rfl ?_
          exact J17 _ _ h
        · have h := ite_T h q19
          refine sw_iload X 0 rfl dX5_most_58 ?_
          refine sw_iload_n X 2 rfl rfl dX5_most_60 ?_
          refine sw_icmp_le X 69 (by decide) dX5_most_61 (fun q20 => ?_) (fun q20 => ?_)
          · have h := ite_T h q20
            refine sw_sub [1, 2, 3, 4] rfl ?_
            exact J17 _ _ h
          · have h := ite_F h q20
            refine sw_iload X 0 rfl dX5_most_64 ?_
            refine sw_istore_n X [(1, .int r13), (4, .int r13), (0, .ref (g.1 0)), (2, .int x4), (3, .int x5)] rfl (by decide) rfl dX5_most_66 ?_
            refine sw_iload_n X 4 rfl rfl dX5_most_67 ?_
            refine sw_istore_n X [(2, .int x5), (1, .int r13), (4, .int r13), (0, .ref (g.1 0)), (3, .int x5)] rfl (by decide) rfl dX5_most_68 ?_
            refine sw_sub [3, 1, 0, 4] rfl ?_
            exact J17 _ _ h
  · have h := ite_T h q1
    refine sw_bipush X (v := (-4)) (by decide) dX5_most_10 ?_
    exact sw_iret X hr hlk dX5_most_12 h
theorem dX5_fillRow_0 : decode cX5_fillRow 0 = .ok (.aload_n 0, 1) := by decide +kernel
theorem dX5_fillRow_1 : decode cX5_fillRow 1 = .ok (.getfield 14, 3) := by decide +kernel
theorem dX5_fillRow_4 : decode cX5_fillRow 4 = .ok (.iload_n 1, 1) := by decide +kernel
theorem dX5_fillRow_5 : decode cX5_fillRow 5 = .ok (.iload_n 3, 1) := by decide +kernel
theorem dX5_fillRow_6 : decode cX5_fillRow 6 = .ok (.iastore, 1) := by decide +kernel
theorem dX5_fillRow_7 : decode cX5_fillRow 7 = .ok (.aload_n 2, 1) := by decide +kernel
theorem dX5_fillRow_8 : decode cX5_fillRow 8 = .ok (.iconst 0, 1) := by decide +kernel
theorem dX5_fillRow_9 : decode cX5_fillRow 9 = .ok (.aload_n 0, 1) := by decide +kernel
theorem dX5_fillRow_10 : decode cX5_fillRow 10 = .ok (.getfield 11, 3) := by decide +kernel
theorem dX5_fillRow_13 : decode cX5_fillRow 13 = .ok (.iload_n 1, 1) := by decide +kernel
theorem dX5_fillRow_14 : decode cX5_fillRow 14 = .ok (.aaload, 1) := by decide +kernel
theorem dX5_fillRow_15 : decode cX5_fillRow 15 = .ok (.iconst 0, 1) := by decide +kernel
theorem dX5_fillRow_16 : decode cX5_fillRow 16 = .ok (.iload_n 3, 1) := by decide +kernel
theorem dX5_fillRow_17 : decode cX5_fillRow 17 = .ok (.invokestatic 111, 3) := by decide +kernel
theorem dX5_fillRow_20 : decode cX5_fillRow 20 = .ok (.return_, 1) := by decide +kernel
def j_X5_fillRow (F : Nat) (a : Nat) (a1 : Int32) (a3 : Int32) (st : sw_St) : Option (Unit × sw_St) :=
bnd a1 6 (
nm (sw_setC st 8 (a1 : Int32).toNatClampNeg a3) (fun (s2 : sw_St) =>
bnd a1 6 (
grd ((¬ 0 < (0 : Int32)) ∧ (¬ 0 < (0 : Int32)) ∧ (¬ a3 < (0 : Int32)) ∧ (0 : Int32).toNatClampNeg + (a3 : Int32).toNatClampNeg ≤ (sw_ln a) ∧ (0 : Int32).toNatClampNeg + (a3 : Int32).toNatClampNeg ≤ 40) (
nm (sw_setA s2 (2 + (a1 : Int32).toNatClampNeg) (va_cpy (s2.1 a) (s2.1 (2 + (a1 : Int32).toNatClampNeg)) (0 : Int32).toNatClampNeg (0 : Int32).toNatClampNeg (a3 : Int32).toNatClampNeg)) (fun (s4 : sw_St) =>
some ((), s4))))))
set_option maxHeartbeats 4000000 in
set_option maxRecDepth 100000 in
theorem c_X5_fillRow (F : Nat) {a : Nat} (ha : sw_kd a = 8) (a1 : Int32) (a3 : Int32) (st : sw_St) {st1 : sw_St} (h : j_X5_fillRow F a a1 a3 st = some ((), st1)) : sw_CV yX5_fillRow (.code yX5_fillRow cX5_fillRow 4 none) 1 (fun g => [.ref (g.1 0), .int a1, .ref (g.1 a), .int a3]) st  st1 := by
  refine sw_entV RX5 (fun g => [(0, .ref (g.1 0)), (1, .int a1), (2, .ref (g.1 a)), (3, .int a3)]) (by decide) rfl (fun _ => Nat.le_of_ble_eq_true rfl) (fun _ => rfl) ?_
  intro p l e s m args below meth c g X hr hlk
  unfold j_X5_fillRow at h
  refine sw_aload_n X 0 rfl rfl dX5_fillRow_0 ?_
  refine sw_getR X sw_cl5 (show sw_kd 0 = 5 from rfl) (k := 1) rfl (by decide) (o1 := 8) rfl wf_X5_14 dX5_fillRow_1 ?_
  refine sw_iload_n X 1 rfl rfl dX5_fillRow_4 ?_
  refine sw_iload_n X 3 rfl rfl dX5_fillRow_5 ?_
  obtain ⟨q1, h⟩ := bnd_E h
  refine sw_iast X (show sw_kd 8 = 8 from rfl) (n := 6) rfl q1 dX5_fillRow_6 (fun s2 es2 => ?_)
  have h := nm_E h es2
  refine sw_aload_n X 2 rfl rfl dX5_fillRow_7 ?_
  refine sw_iconst X (v := 0) (by decide) dX5_fillRow_8 ?_
  refine sw_aload_n X 0 rfl rfl dX5_fillRow_9 ?_
  refine sw_getR X sw_cl5 (show sw_kd 0 = 5 from rfl) (k := 0) rfl (by decide) (o1 := 1) rfl wf_X5_11 dX5_fillRow_10 ?_
  refine sw_iload_n X 1 rfl rfl dX5_fillRow_13 ?_
  obtain ⟨q3, h⟩ := bnd_E h
  refine sw_aaldI X (show sw_kd 1 = 12 from rfl) (n := 6) rfl q3 (a1 := 2 + (a1 : Int32).toNatClampNeg) rfl dX5_fillRow_14 ?_
  refine sw_iconst X (v := 0) (by decide) dX5_fillRow_15 ?_
  refine sw_iload_n X 3 rfl rfl dX5_fillRow_16 ?_
  obtain ⟨q5, h⟩ := grd_E h
  refine sw_copy X (show sw_kd a = 8 from ha) (n0 := (sw_ln a)) rfl (show sw_kd (2 + (a1 : Int32).toNatClampNeg) = 8 from (sw_rk q3)) (n1 := 40) (sw_rn q3) q5.1 q5.2.1 q5.2.2.1 q5.2.2.2.1 q5.2.2.2.2 wm_X5_111 ws_copy.1 ws_copy.2.1 ws_copy.2.2 (by omega) (Nat.le_of_ble_eq_true rfl) dX5_fillRow_17 (fun s4 es4 => ?_)
  have h := nm_E h es4
  exact sw_vret X hr hlk dX5_fillRow_20 h
theorem dX5_order_0 : decode cX5_order 0 = .ok (.iload_n 1, 1) := by decide +kernel
theorem dX5_order_1 : decode cX5_order 1 = .ok (.invokestatic 95, 3) := by decide +kernel
theorem dX5_order_4 : decode cX5_order 4 = .ok (.ifCond .ne 5, 3) := by decide +kernel
theorem dX5_order_7 : decode cX5_order 7 = .ok (.iconst (-1), 1) := by decide +kernel
theorem dX5_order_8 : decode cX5_order 8 = .ok (.ireturn, 1) := by decide +kernel
theorem dX5_order_9 : decode cX5_order 9 = .ok (.aload_n 0, 1) := by decide +kernel
theorem dX5_order_10 : decode cX5_order 10 = .ok (.getfield 29, 3) := by decide +kernel
theorem dX5_order_13 : decode cX5_order 13 = .ok (.getfield 134, 3) := by decide +kernel
theorem dX5_order_16 : decode cX5_order 16 = .ok (.ifCond .ne 6, 3) := by decide +kernel
theorem dX5_order_19 : decode cX5_order 19 = .ok (.bipush (-4), 2) := by decide +kernel
theorem dX5_order_21 : decode cX5_order 21 = .ok (.ireturn, 1) := by decide +kernel
theorem dX5_order_22 : decode cX5_order 22 = .ok (.aload_n 0, 1) := by decide +kernel
theorem dX5_order_23 : decode cX5_order 23 = .ok (.getfield 61, 3) := by decide +kernel
theorem dX5_order_26 : decode cX5_order 26 = .ok (.aload_n 0, 1) := by decide +kernel
theorem dX5_order_27 : decode cX5_order 27 = .ok (.getfield 29, 3) := by decide +kernel
theorem dX5_order_30 : decode cX5_order 30 = .ok (.invokevirtual 214, 3) := by decide +kernel
theorem dX5_order_33 : decode cX5_order 33 = .ok (.aload_n 0, 1) := by decide +kernel
theorem dX5_order_34 : decode cX5_order 34 = .ok (.iload_n 1, 1) := by decide +kernel
theorem dX5_order_35 : decode cX5_order 35 = .ok (.aload_n 0, 1) := by decide +kernel
theorem dX5_order_36 : decode cX5_order 36 = .ok (.getfield 61, 3) := by decide +kernel
theorem dX5_order_39 : decode cX5_order 39 = .ok (.getfield 217, 3) := by decide +kernel
theorem dX5_order_42 : decode cX5_order 42 = .ok (.aload_n 0, 1) := by decide +kernel
theorem dX5_order_43 : decode cX5_order 43 = .ok (.getfield 61, 3) := by decide +kernel
theorem dX5_order_46 : decode cX5_order 46 = .ok (.getfield 220, 3) := by decide +kernel
theorem dX5_order_49 : decode cX5_order 49 = .ok (.invokevirtual 223, 3) := by decide +kernel
theorem dX5_order_52 : decode cX5_order 52 = .ok (.aload_n 0, 1) := by decide +kernel
theorem dX5_order_53 : decode cX5_order 53 = .ok (.getfield 61, 3) := by decide +kernel
theorem dX5_order_56 : decode cX5_order 56 = .ok (.getfield 227, 3) := by decide +kernel
theorem dX5_order_59 : decode cX5_order 59 = .ok (.ireturn, 1) := by decide +kernel
def j_X5_order (F : Nat) (a1 : Int32) (st : sw_St) : Option (Int32 × sw_St) :=
bo (j_X5_isRow F a1 st) (fun (r2 : Int32) =>
(if r2 = 0 then (
 some (((-1) : Int32), st))
else (
 (if (st.1 15 0) = 0 then (
  some (((-4) : Int32), st))
 else (
  bd (j_X2_search F st) (fun (_ : Unit) (s6 : sw_St) =>
  bd (j_X5_fillRow F 59 a1 (s6.1 57 2) s6) (fun (_ : Unit) (s8 : sw_St) =>
  some ((s8.1 57 3 : Int32), s8))))))))
set_option maxHeartbeats 4000000 in
set_option maxRecDepth 100000 in
theorem c_X5_order (F : Nat) (a1 : Int32) (st : sw_St) {r : Int32} {st1 : sw_St} (h : j_X5_order F a1 st = some (r, st1)) : sw_CI yX5_order (.code yX5_order cX5_order 2 (some .int)) 15 (fun g => [.ref (g.1 0), .int a1]) st r st1 := by
  refine sw_entI RX5 (fun g => [(0, .ref (g.1 0)), (1, .int a1)]) (by decide) rfl (fun _ => Nat.le_of_ble_eq_true rfl) (fun _ => rfl) ?_
  intro p l e s m args below meth c g X hr hlk
  unfold j_X5_order at h
  refine sw_iload_n X 1 rfl rfl dX5_order_0 ?_
  obtain ⟨r2, c1, h⟩ := bo_E h
  refine sw_callSI X (As := (fun g => [.int a1])) ws_X5_isRow (by omega) (c_X5_isRow F a1 st c1) rfl rfl (Nat.le_of_ble_eq_true rfl) wm_X5_95 dX5_order_1 ?_
  refine sw_if_ne X 9 (by decide) dX5_order_4 (fun q3 => ?_) (fun q3 => ?_)
  · have h := ite_F h q3
    refine sw_aload_n X 0 rfl rfl dX5_order_9 ?_
    refine sw_getR X sw_cl5 (show sw_kd 0 = 5 from rfl) (k := 4) rfl (by decide) (o1 := 15) rfl wf_X5_29 dX5_order_10 ?_
    refine sw_getI X sw_cl4 (show sw_kd 15 = 4 from rfl) (k := 0) rfl (by decide) wf_X5_134 dX5_order_13 ?_
    refine sw_if_ne X 22 (by decide) dX5_order_16 (fun q4 => ?_) (fun q4 => ?_)
    · have h := ite_F h q4
      refine sw_aload_n X 0 rfl rfl dX5_order_22 ?_
      refine sw_getR X sw_cl5 (show sw_kd 0 = 5 from rfl) (k := 10) rfl (by decide) (o1 := 57) rfl wf_X5_61 dX5_order_23 ?_
      refine sw_aload_n X 0 rfl rfl dX5_order_26 ?_
      refine sw_getR X sw_cl5 (show sw_kd 0 = 5 from rfl) (k := 4) rfl (by decide) (o1 := 15) rfl wf_X5_29 dX5_order_27 ?_
      obtain ⟨u10, s6, c5, h⟩ := bd_E h
      refine sw_callVV X (o := 57) (As := (fun g => [.ref (g.1 15)])) sw_cl2 (show sw_kd 57 = 2 from rfl) ws_X2_search (by omega) (c_X2_search F st c5) rfl rfl (Nat.le_of_ble_eq_true rfl) wm_X5_214 dX5_order_30 ?_
      refine sw_aload_n X 0 rfl rfl dX5_order_33 ?_
      refine sw_iload_n X 1 rfl rfl dX5_order_34 ?_
      refine sw_aload_n X 0 rfl rfl dX5_order_35 ?_
      refine sw_getR X sw_cl5 (show sw_kd 0 = 5 from rfl) (k := 10) rfl (by decide) (o1 := 57) rfl wf_X5_61 dX5_order_36 ?_
      refine sw_getR X sw_cl2 (show sw_kd 57 = 2 from rfl) (k := 1) rfl (by decide) (o1 := 59) rfl wf_X5_217 dX5_order_39 ?_
      refine sw_aload_n X 0 rfl rfl dX5_order_42 ?_
      refine sw_getR X sw_cl5 (show sw_kd 0 = 5 from rfl) (k := 10) rfl (by decide) (o1 := 57) rfl wf_X5_61 dX5_order_43 ?_
      refine sw_getI X sw_cl2 (show sw_kd 57 = 2 from rfl) (k := 2) rfl (by decide) wf_X5_220 dX5_order_46 ?_
      obtain ⟨u9, s8, c7, h⟩ := bd_E h
      refine sw_callVV X (o := 0) (As := (fun g => [.int a1, .ref (g.1 59), .int (s6.1 57 2)])) sw_cl5 (show sw_kd 0 = 5 from rfl) ws_X5_fillRow (by omega) (c_X5_fillRow F (show sw_kd 59 = 8 from rfl) a1 (s6.1 57 2) s6 c7) rfl rfl (Nat.le_of_ble_eq_true rfl) wm_X5_223 dX5_order_49 ?_
      refine sw_aload_n X 0 rfl rfl dX5_order_52 ?_
      refine sw_getR X sw_cl5 (show sw_kd 0 = 5 from rfl) (k := 10) rfl (by decide) (o1 := 57) rfl wf_X5_61 dX5_order_53 ?_
      refine sw_getI X sw_cl2 (show sw_kd 57 = 2 from rfl) (k := 3) rfl (by decide) wf_X5_227 dX5_order_56 ?_
      exact sw_iret X hr hlk dX5_order_59 h
    · have h := ite_T h q4
      refine sw_bipush X (v := (-4)) (by decide) dX5_order_19 ?_
      exact sw_iret X hr hlk dX5_order_21 h
  · have h := ite_T h q3
    refine sw_iconst X (v := (-1)) (by decide) dX5_order_7 ?_
    exact sw_iret X hr hlk dX5_order_8 h
theorem dX5_isDial_0 : decode cX5_isDial 0 = .ok (.iload_n 0, 1) := by decide +kernel
theorem dX5_isDial_1 : decode cX5_isDial 1 = .ok (.ifCond .lt 13, 3) := by decide +kernel
theorem dX5_isDial_4 : decode cX5_isDial 4 = .ok (.iload_n 0, 1) := by decide +kernel
theorem dX5_isDial_5 : decode cX5_isDial 5 = .ok (.bipush 12, 2) := by decide +kernel
theorem dX5_isDial_7 : decode cX5_isDial 7 = .ok (.if_icmp .ge 7, 3) := by decide +kernel
theorem dX5_isDial_10 : decode cX5_isDial 10 = .ok (.iconst 1, 1) := by decide +kernel
theorem dX5_isDial_11 : decode cX5_isDial 11 = .ok (.goto 4, 3) := by decide +kernel
theorem dX5_isDial_14 : decode cX5_isDial 14 = .ok (.iconst 0, 1) := by decide +kernel
theorem dX5_isDial_15 : decode cX5_isDial 15 = .ok (.ireturn, 1) := by decide +kernel
def j_X5_isDial (F : Nat) (a1 : Int32) (st : sw_St) : Option Int32 :=
jn (fun (x1 : Int32) => 
  grd (x1 = 0 ∨ x1 = 1) (some (x1 : Int32))) (fun k2 =>
 jn (
   k2 0) (fun k5 =>
  (if a1 < 0 then (
   k5)
  else (
   (if 12 ≤ a1 then (
    k5)
   else (
    k2 1))))))
set_option maxHeartbeats 4000000 in
set_option maxRecDepth 100000 in
theorem c_X5_isDial (F : Nat) (a1 : Int32) (st : sw_St) {r : Int32} (h : j_X5_isDial F a1 st = some r) : sw_CI yX5_isDial (.code yX5_isDial cX5_isDial 1 (some .boolean)) 1 (fun g => [.int a1]) st r st := by
  refine sw_entI RX5 (fun g => [(0, .int a1)]) (by decide) rfl (fun _ => Nat.le_of_ble_eq_true rfl) (fun _ => rfl) ?_
  intro p l e s m args below meth c g X hr hlk
  unfold j_X5_isDial at h
  refine sw_iload_n X 0 rfl rfl dX5_isDial_0 ?_
  refine jn1_E (fun (x1 : Int32) => sw_V p l e 1 s m args below meth c g (sw_A g s.heap.size) (sw_QI below g args s r st) 1 15 [] [.int x1] st) h (fun x1 h => ?_) (fun k2 J3 h => ?_)
  · obtain ⟨q4, h⟩ := grd_E h
    exact sw_zret X hr hlk q4 dX5_isDial_15 (by cases h; rfl)
  · refine jn0_E (sw_V p l e 1 s m args below meth c g (sw_A g s.heap.size) (sw_QI below g args s r st) 1 14 [] [] st) h (fun h => ?_) (fun k5 J6 h => ?_)
    · refine sw_iconst X (v := 0) (by decide) dX5_isDial_14 ?_
      exact J3 _ h
    · refine sw_if_lt X 14 (by decide) dX5_isDial_1 (fun q7 => ?_) (fun q7 => ?_)
      · have h := ite_T h q7
        refine sw_sub [] rfl ?_
        exact J6  h
      · have h := ite_F h q7
        refine sw_iload_n X 0 rfl rfl dX5_isDial_4 ?_
        refine sw_bipush X (v := 12) (by decide) dX5_isDial_5 ?_
        refine sw_icmp_ge X 14 (by decide) dX5_isDial_7 (fun q8 => ?_) (fun q8 => ?_)
        · have h := ite_T h q8
          refine sw_sub [] rfl ?_
          exact J6  h
        · have h := ite_F h q8
          refine sw_iconst X (v := 1) (by decide) dX5_isDial_10 ?_
          refine sw_goto X 15 (by decide) dX5_isDial_11 ?_
          refine sw_sub [] rfl ?_
          exact J3 _ h
theorem dX5_isLettingSize_0 : decode cX5_isLettingSize 0 = .ok (.iload_n 0, 1) := by decide +kernel
theorem dX5_isLettingSize_1 : decode cX5_isLettingSize 1 = .ok (.ifCond .lt 12, 3) := by decide +kernel
theorem dX5_isLettingSize_4 : decode cX5_isLettingSize 4 = .ok (.iload_n 0, 1) := by decide +kernel
theorem dX5_isLettingSize_5 : decode cX5_isLettingSize 5 = .ok (.iconst 5, 1) := by decide +kernel
theorem dX5_isLettingSize_6 : decode cX5_isLettingSize 6 = .ok (.if_icmp .gt 7, 3) := by decide +kernel
theorem dX5_isLettingSize_9 : decode cX5_isLettingSize 9 = .ok (.iconst 1, 1) := by decide +kernel
theorem dX5_isLettingSize_10 : decode cX5_isLettingSize 10 = .ok (.goto 4, 3) := by decide +kernel
theorem dX5_isLettingSize_13 : decode cX5_isLettingSize 13 = .ok (.iconst 0, 1) := by decide +kernel
theorem dX5_isLettingSize_14 : decode cX5_isLettingSize 14 = .ok (.ireturn, 1) := by decide +kernel
def j_X5_isLettingSize (F : Nat) (a1 : Int32) (st : sw_St) : Option Int32 :=
jn (fun (x1 : Int32) => 
  grd (x1 = 0 ∨ x1 = 1) (some (x1 : Int32))) (fun k2 =>
 jn (
   k2 0) (fun k5 =>
  (if a1 < 0 then (
   k5)
  else (
   (if 5 < a1 then (
    k5)
   else (
    k2 1))))))
set_option maxHeartbeats 4000000 in
set_option maxRecDepth 100000 in
theorem c_X5_isLettingSize (F : Nat) (a1 : Int32) (st : sw_St) {r : Int32} (h : j_X5_isLettingSize F a1 st = some r) : sw_CI yX5_isLettingSize (.code yX5_isLettingSize cX5_isLettingSize 1 (some .boolean)) 1 (fun g => [.int a1]) st r st := by
  refine sw_entI RX5 (fun g => [(0, .int a1)]) (by decide) rfl (fun _ => Nat.le_of_ble_eq_true rfl) (fun _ => rfl) ?_
  intro p l e s m args below meth c g X hr hlk
  unfold j_X5_isLettingSize at h
  refine sw_iload_n X 0 rfl rfl dX5_isLettingSize_0 ?_
  refine jn1_E (fun (x1 : Int32) => sw_V p l e 1 s m args below meth c g (sw_A g s.heap.size) (sw_QI below g args s r st) 1 14 [] [.int x1] st) h (fun x1 h => ?_) (fun k2 J3 h => ?_)
  · obtain ⟨q4, h⟩ := grd_E h
    exact sw_zret X hr hlk q4 dX5_isLettingSize_14 (by cases h; rfl)
  · refine jn0_E (sw_V p l e 1 s m args below meth c g (sw_A g s.heap.size) (sw_QI below g args s r st) 1 13 [] [] st) h (fun h => ?_) (fun k5 J6 h => ?_)
    · refine sw_iconst X (v := 0) (by decide) dX5_isLettingSize_13 ?_
      exact J3 _ h
    · refine sw_if_lt X 13 (by decide) dX5_isLettingSize_1 (fun q7 => ?_) (fun q7 => ?_)
      · have h := ite_T h q7
        refine sw_sub [] rfl ?_
        exact J6  h
      · have h := ite_F h q7
        refine sw_iload_n X 0 rfl rfl dX5_isLettingSize_4 ?_
        refine sw_iconst X (v := 5) (by decide) dX5_isLettingSize_5 ?_
        refine sw_icmp_gt X 13 (by decide) dX5_isLettingSize_6 (fun q8 => ?_) (fun q8 => ?_)
        · have h := ite_T h q8
          refine sw_sub [] rfl ?_
          exact J6  h
        · have h := ite_F h q8
          refine sw_iconst X (v := 1) (by decide) dX5_isLettingSize_9 ?_
          refine sw_goto X 14 (by decide) dX5_isLettingSize_10 ?_
          refine sw_sub [] rfl ?_
          exact J3 _ h
theorem dX5_commonDivisor_0 : decode cX5_commonDivisor 0 = .ok (.lload_n 0, 1) := by decide +kernel
theorem dX5_commonDivisor_1 : decode cX5_commonDivisor 1 = .ok (.lstore 4, 2) := by decide +kernel
theorem dX5_commonDivisor_3 : decode cX5_commonDivisor 3 = .ok (.lload_n 2, 1) := by decide +kernel
theorem dX5_commonDivisor_4 : decode cX5_commonDivisor 4 = .ok (.lstore 6, 2) := by decide +kernel
theorem dX5_commonDivisor_6 : decode cX5_commonDivisor 6 = .ok (.iconst 0, 1) := by decide +kernel
theorem dX5_commonDivisor_7 : decode cX5_commonDivisor 7 = .ok (.istore 8, 2) := by decide +kernel
theorem dX5_commonDivisor_9 : decode cX5_commonDivisor 9 = .ok (.iload 8, 2) := by decide +kernel
theorem dX5_commonDivisor_11 : decode cX5_commonDivisor 11 = .ok (.bipush 100, 2) := by decide +kernel
theorem dX5_commonDivisor_13 : decode cX5_commonDivisor 13 = .ok (.if_icmp .ge 31, 3) := by decide +kernel
theorem dX5_commonDivisor_16 : decode cX5_commonDivisor 16 = .ok (.lload 6, 2) := by decide +kernel
theorem dX5_commonDivisor_18 : decode cX5_commonDivisor 18 = .ok (.lconst 0, 1) := by decide +kernel
theorem dX5_commonDivisor_19 : decode cX5_commonDivisor 19 = .ok (.lcmp, 1) := by decide +kernel
theorem dX5_commonDivisor_20 : decode cX5_commonDivisor 20 = .ok (.ifCond .eq 24, 3) := by decide +kernel
theorem dX5_commonDivisor_23 : decode cX5_commonDivisor 23 = .ok (.lload 4, 2) := by decide +kernel
theorem dX5_commonDivisor_25 : decode cX5_commonDivisor 25 = .ok (.lload 6, 2) := by decide +kernel
theorem dX5_commonDivisor_27 : decode cX5_commonDivisor 27 = .ok (.lrem, 1) := by decide +kernel
theorem dX5_commonDivisor_28 : decode cX5_commonDivisor 28 = .ok (.lstore 9, 2) := by decide +kernel
theorem dX5_commonDivisor_30 : decode cX5_commonDivisor 30 = .ok (.lload 6, 2) := by decide +kernel
theorem dX5_commonDivisor_32 : decode cX5_commonDivisor 32 = .ok (.lstore 4, 2) := by decide +kernel
theorem dX5_commonDivisor_34 : decode cX5_commonDivisor 34 = .ok (.lload 9, 2) := by decide +kernel
theorem dX5_commonDivisor_36 : decode cX5_commonDivisor 36 = .ok (.lstore 6, 2) := by decide +kernel
theorem dX5_commonDivisor_38 : decode cX5_commonDivisor 38 = .ok (.iinc 8 1, 3) := by decide +kernel
theorem dX5_commonDivisor_41 : decode cX5_commonDivisor 41 = .ok (.goto (-32), 3) := by decide +kernel
theorem dX5_commonDivisor_44 : decode cX5_commonDivisor 44 = .ok (.lload 4, 2) := by decide +kernel
theorem dX5_commonDivisor_46 : decode cX5_commonDivisor 46 = .ok (.lconst 0, 1) := by decide +kernel
theorem dX5_commonDivisor_47 : decode cX5_commonDivisor 47 = .ok (.lcmp, 1) := by decide +kernel
theorem dX5_commonDivisor_48 : decode cX5_commonDivisor 48 = .ok (.ifCond .ne 7, 3) := by decide +kernel
theorem dX5_commonDivisor_51 : decode cX5_commonDivisor 51 = .ok (.lconst 1, 1) := by decide +kernel
theorem dX5_commonDivisor_52 : decode cX5_commonDivisor 52 = .ok (.goto 5, 3) := by decide +kernel
theorem dX5_commonDivisor_55 : decode cX5_commonDivisor 55 = .ok (.lload 4, 2) := by decide +kernel
theorem dX5_commonDivisor_57 : decode cX5_commonDivisor 57 = .ok (.lreturn, 1) := by decide +kernel
def j_X5_commonDivisor (F : Nat) (a1 : Int64) (a2 : Int64) (st : sw_St) : Option Int64 :=
lz3 (fun f4 (x1 : Int64) (x2 : Int64) (x3 : Int32) =>
 jn (
   jn (fun (x8 : Int64) => 
     some (x8 : Int64)) (fun k9 =>
    (if (lg_cmp x1 0) = 0 then (
     k9 1)
    else (
     k9 x1)))) (fun k6 =>
  (if 100 ≤ x3 then (
   k6)
  else (
   (if (lg_cmp x2 0) = 0 then (
    k6)
   else (
    grd (¬ x2 = 0) (
    nm (x1 - x1 / x2 * x2) (fun (x15 : Int64) =>
    nm (x3 + 1) (fun (x16 : Int32) =>
    f4 x2 x15 x16))))))))) F a1 a2 0
set_option maxHeartbeats 4000000 in
set_option maxRecDepth 100000 in
theorem c_X5_commonDivisor (F : Nat) (a1 : Int64) (a2 : Int64) (st : sw_St) {r : Int64} (h : j_X5_commonDivisor F a1 a2 st = some r) : sw_CL yX5_commonDivisor (.code yX5_commonDivisor cX5_commonDivisor 11 (some .long)) 1 (fun g => [.long a1, .long a2]) st r st := by
  refine sw_entL RX5 (fun g => [(0, .long a1), (2, .long a2)]) (by decide) rfl (fun _ => Nat.le_of_ble_eq_true rfl) (fun _ => rfl) ?_
  intro p l e s m args below meth c g X hr hlk
  unfold j_X5_commonDivisor at h
  refine sw_lload_n X 0 rfl rfl dX5_commonDivisor_0 ?_
  refine sw_lstore X [(4, .long a1), (0, .long a1), (2, .long a2)] (by decide) rfl dX5_commonDivisor_1 ?_
  refine sw_lload_n X 2 rfl rfl dX5_commonDivisor_3 ?_
  refine sw_lstore X [(6, .long a2), (4, .long a1), (0, .long a1), (2, .long a2)] (by decide) rfl dX5_commonDivisor_4 ?_
  refine sw_iconst X (v := 0) (by decide) dX5_commonDivisor_6 ?_
  refine sw_istore X [(8, .int 0), (6, .long a2), (4, .long a1), (0, .long a1), (2, .long a2)] (by decide) rfl dX5_commonDivisor_7 ?_
  refine sw_sub [2, 1, 0] rfl ?_
  refine lz3_E (fun (x1 : Int64) (x2 : Int64) (x3 : Int32) => sw_V p l e 1 s m args below meth c g (sw_A g s.heap.size) (sw_QL below g args s r st) 11 9 [(4, .long x1), (6, .long x2), (8, .int x3)] [] st) h (fun f4 ih5 x1 x2 x3 h => ?_)
  refine sw_iload X 2 rfl dX5_commonDivisor_9 ?_
  refine sw_bipush X (v := 100) (by decide) dX5_commonDivisor_11 ?_
  refine jn0_E (sw_V p l e 1 s m args below meth c g (sw_A g s.heap.size) (sw_QL below g args s r st) 11 44 [(4, .long x1)] [] st) h (fun h => ?_) (fun k6 J7 h => ?_)
  · refine sw_lload X 0 rfl dX5_commonDivisor_44 ?_
    refine sw_lconst X (v := 0) (by decide) dX5_commonDivisor_46 ?_
    refine sw_lcmp X dX5_commonDivisor_47 ?_
    refine jn1_E (fun (x8 : Int64) => sw_V p l e 1 s m args below meth c g (sw_A g s.heap.size) (sw_QL below g args s r st) 11 57 [] [.long x8] st) h (fun x8 h => ?_) (fun k9 J10 h => ?_)
    · exact sw_lret X hr hlk dX5_commonDivisor_57 (by cases h; rfl)
    · refine sw_if_ne X 55 (by decide) dX5_commonDivisor_48 (fun q11 => ?_) (fun q11 => ?_)
      · have h := ite_F h q11
        refine sw_lload X 0 rfl dX5_commonDivisor_55 ?_
        refine sw_sub [] rfl ?_
        exact J10 _ h
      · have h := ite_T h q11
        refine sw_lconst X (v := 1) (by decide) dX5_commonDivisor_51 ?_
        refine sw_goto X 57 (by decide) dX5_commonDivisor_52 ?_
        refine sw_sub [] rfl ?_
        exact J10 _ h
  · refine sw_icmp_ge X 44 (by decide) dX5_commonDivisor_13 (fun q12 => ?_) (fun q12 => ?_)
    · have h := ite_T h q12
      refine sw_sub [0] rfl ?_
      exact J7  h
    · have h := ite_F h q12
      refine sw_lload X 1 rfl dX5_commonDivisor_16 ?_
      refine sw_lconst X (v := 0) (by decide) dX5_commonDivisor_18 ?_
      refine sw_lcmp X dX5_commonDivisor_19 ?_
      refine sw_if_eq X 44 (by decide) dX5_commonDivisor_20 (fun q13 => ?_) (fun q13 => ?_)
      · have h := ite_T h q13
        refine sw_sub [0] rfl ?_
        exact J7  h
      · have h := ite_F h q13
        refine sw_lload X 0 rfl dX5_commonDivisor_23 ?_
        refine sw_lload X 1 rfl dX5_commonDivisor_25 ?_
        obtain ⟨q14, h⟩ := grd_E h
        refine sw_lrem X q14 dX5_commonDivisor_27 ?_
        refine sw_topl (fun x15 ex15 => ?_)
        have h := nm_E h ex15
        refine sw_lstore X [(9, .long x15), (4, .long x1), (6, .long x2), (8, .int x3)] (by decide) rfl dX5_commonDivisor_28 ?_
        refine sw_lload X 2 rfl dX5_commonDivisor_30 ?_
        refine sw_lstore X [(4, .long x2), (9, .long x15), (6, .long x2), (8, .int x3)] (by decide) rfl dX5_commonDivisor_32 ?_
        refine sw_lload X 1 rfl dX5_commonDivisor_34 ?_
        refine sw_lstore X [(6, .long x15), (4, .long x2), (9, .long x15), (8, .int x3)] (by decide) rfl dX5_commonDivisor_36 ?_
        obtain ⟨x16, ex16⟩ : ∃ y : Int32, y = x3 + 1 := ⟨_, rfl⟩
        have h := nm_E h ex16
        refine sw_iinc X 3 x16 [(8, .int x16), (6, .long x15), (4, .long x2), (9, .long x15)] rfl (by rw [ex16]; rfl) (by decide) rfl dX5_commonDivisor_38 ?_
        refine sw_goto X 9 (by decide) dX5_commonDivisor_41 ?_
        refine sw_sub [2, 1, 0] rfl ?_
        exact ih5 _ _ _ h
theorem dX5_tell_0 : decode cX5_tell 0 = .ok (.lload_n 1, 1) := by decide +kernel
theorem dX5_tell_1 : decode cX5_tell 1 = .ok (.lload_n 3, 1) := by decide +kernel
theorem dX5_tell_2 : decode cX5_tell 2 = .ok (.invokestatic 351, 3) := by decide +kernel
theorem dX5_tell_5 : decode cX5_tell 5 = .ok (.lstore 5, 2) := by decide +kernel
theorem dX5_tell_7 : decode cX5_tell 7 = .ok (.aload_n 0, 1) := by decide +kernel
theorem dX5_tell_8 : decode cX5_tell 8 = .ok (.lload_n 1, 1) := by decide +kernel
theorem dX5_tell_9 : decode cX5_tell 9 = .ok (.lload 5, 2) := by decide +kernel
theorem dX5_tell_11 : decode cX5_tell 11 = .ok (.ldiv, 1) := by decide +kernel
theorem dX5_tell_12 : decode cX5_tell 12 = .ok (.putfield 82, 3) := by decide +kernel
theorem dX5_tell_15 : decode cX5_tell 15 = .ok (.aload_n 0, 1) := by decide +kernel
theorem dX5_tell_16 : decode cX5_tell 16 = .ok (.lload_n 3, 1) := by decide +kernel
theorem dX5_tell_17 : decode cX5_tell 17 = .ok (.lload 5, 2) := by decide +kernel
theorem dX5_tell_19 : decode cX5_tell 19 = .ok (.ldiv, 1) := by decide +kernel
theorem dX5_tell_20 : decode cX5_tell 20 = .ok (.putfield 86, 3) := by decide +kernel
theorem dX5_tell_23 : decode cX5_tell 23 = .ok (.return_, 1) := by decide +kernel
def j_X5_tell (F : Nat) (a1 : Int64) (a2 : Int64) (st : sw_St) : Option (Unit × sw_St) :=
bo (j_X5_commonDivisor F a1 a2 st) (fun (r2 : Int64) =>
grd (¬ r2 = 0) (
nm (sw_setJ st 0 15 (a1 / r2)) (fun (s4 : sw_St) =>
grd (¬ r2 = 0) (
nm (sw_setJ s4 0 16 (a2 / r2)) (fun (s6 : sw_St) =>
some ((), s6))))))
set_option maxHeartbeats 4000000 in
set_option maxRecDepth 100000 in
theorem c_X5_tell (F : Nat) (a1 : Int64) (a2 : Int64) (st : sw_St) {st1 : sw_St} (h : j_X5_tell F a1 a2 st = some ((), st1)) : sw_CV yX5_tell (.code yX5_tell cX5_tell 7 none) 2 (fun g => [.ref (g.1 0), .long a1, .long a2]) st  st1 := by
  refine sw_entV RX5 (fun g => [(0, .ref (g.1 0)), (1, .long a1), (3, .long a2)]) (by decide) rfl (fun _ => Nat.le_of_ble_eq_true rfl) (fun _ => rfl) ?_
  intro p l e s m args below meth c g X hr hlk
  unfold j_X5_tell at h
  refine sw_lload_n X 1 rfl rfl dX5_tell_0 ?_
  refine sw_lload_n X 2 rfl rfl dX5_tell_1 ?_
  obtain ⟨r2, c1, h⟩ := bo_E h
  refine sw_callSL X (As := (fun g => [.long a1, .long a2])) ws_X5_commonDivisor (by omega) (c_X5_commonDivisor F a1 a2 st c1) rfl rfl (Nat.le_of_ble_eq_true rfl) wm_X5_351 dX5_tell_2 ?_
  refine sw_lstore X [(5, .long r2), (0, .ref (g.1 0)), (1, .long a1), (3, .long a2)] (by decide) rfl dX5_tell_5 ?_
  refine sw_aload_n X 1 rfl rfl dX5_tell_7 ?_
  refine sw_lload_n X 2 rfl rfl dX5_tell_8 ?_
  refine sw_lload X 0 rfl dX5_tell_9 ?_
  obtain ⟨q3, h⟩ := grd_E h
  refine sw_ldiv X q3 dX5_tell_11 ?_
  refine sw_putL X sw_cl5 (show sw_kd 0 = 5 from rfl) (k := 15) rfl (by decide) rfl rfl wf_X5_82 dX5_tell_12 (fun s4 es4 => ?_)
  have h := nm_E h es4
  refine sw_aload_n X 1 rfl rfl dX5_tell_15 ?_
  refine sw_lload_n X 3 rfl rfl dX5_tell_16 ?_
  refine sw_lload X 0 rfl dX5_tell_17 ?_
  obtain ⟨q5, h⟩ := grd_E h
  refine sw_ldiv X q5 dX5_tell_19 ?_
  refine sw_putL X sw_cl5 (show sw_kd 0 = 5 from rfl) (k := 16) rfl (by decide) rfl rfl wf_X5_86 dX5_tell_20 (fun s6 es6 => ?_)
  have h := nm_E h es6
  exact sw_vret X hr hlk dX5_tell_23 h
theorem dX5_ways_0 : decode cX5_ways 0 = .ok (.iload_n 1, 1) := by decide +kernel
theorem dX5_ways_1 : decode cX5_ways 1 = .ok (.invokestatic 230, 3) := by decide +kernel
theorem dX5_ways_4 : decode cX5_ways 4 = .ok (.ifCond .eq 10, 3) := by decide +kernel
theorem dX5_ways_7 : decode cX5_ways 7 = .ok (.iload_n 2, 1) := by decide +kernel
theorem dX5_ways_8 : decode cX5_ways 8 = .ok (.invokestatic 233, 3) := by decide +kernel
theorem dX5_ways_11 : decode cX5_ways 11 = .ok (.ifCond .ne 5, 3) := by decide +kernel
theorem dX5_ways_14 : decode cX5_ways 14 = .ok (.iconst (-1), 1) := by decide +kernel
theorem dX5_ways_15 : decode cX5_ways 15 = .ok (.ireturn, 1) := by decide +kernel
theorem dX5_ways_16 : decode cX5_ways 16 = .ok (.aload_n 0, 1) := by decide +kernel
theorem dX5_ways_17 : decode cX5_ways 17 = .ok (.getfield 29, 3) := by decide +kernel
theorem dX5_ways_20 : decode cX5_ways 20 = .ok (.getfield 134, 3) := by decide +kernel
theorem dX5_ways_23 : decode cX5_ways 23 = .ok (.ifCond .ne 6, 3) := by decide +kernel
theorem dX5_ways_26 : decode cX5_ways 26 = .ok (.bipush (-4), 2) := by decide +kernel
theorem dX5_ways_28 : decode cX5_ways 28 = .ok (.ireturn, 1) := by decide +kernel
theorem dX5_ways_29 : decode cX5_ways 29 = .ok (.aload_n 0, 1) := by decide +kernel
theorem dX5_ways_30 : decode cX5_ways 30 = .ok (.getfield 54, 3) := by decide +kernel
theorem dX5_ways_33 : decode cX5_ways 33 = .ok (.aload_n 0, 1) := by decide +kernel
theorem dX5_ways_34 : decode cX5_ways 34 = .ok (.getfield 29, 3) := by decide +kernel
theorem dX5_ways_37 : decode cX5_ways 37 = .ok (.iload_n 1, 1) := by decide +kernel
theorem dX5_ways_38 : decode cX5_ways 38 = .ok (.iload_n 2, 1) := by decide +kernel
theorem dX5_ways_39 : decode cX5_ways 39 = .ok (.invokevirtual 236, 3) := by decide +kernel
theorem dX5_ways_42 : decode cX5_ways 42 = .ok (.aload_n 0, 1) := by decide +kernel
theorem dX5_ways_43 : decode cX5_ways 43 = .ok (.aload_n 0, 1) := by decide +kernel
theorem dX5_ways_44 : decode cX5_ways 44 = .ok (.getfield 54, 3) := by decide +kernel
theorem dX5_ways_47 : decode cX5_ways 47 = .ok (.getfield 239, 3) := by decide +kernel
theorem dX5_ways_50 : decode cX5_ways 50 = .ok (.i2l, 1) := by decide +kernel
theorem dX5_ways_51 : decode cX5_ways 51 = .ok (.lconst 1, 1) := by decide +kernel
theorem dX5_ways_52 : decode cX5_ways 52 = .ok (.invokevirtual 242, 3) := by decide +kernel
theorem dX5_ways_55 : decode cX5_ways 55 = .ok (.aload_n 0, 1) := by decide +kernel
theorem dX5_ways_56 : decode cX5_ways 56 = .ok (.aload_n 0, 1) := by decide +kernel
theorem dX5_ways_57 : decode cX5_ways 57 = .ok (.getfield 54, 3) := by decide +kernel
theorem dX5_ways_60 : decode cX5_ways 60 = .ok (.getfield 246, 3) := by decide +kernel
theorem dX5_ways_63 : decode cX5_ways 63 = .ok (.putfield 79, 3) := by decide +kernel
theorem dX5_ways_66 : decode cX5_ways 66 = .ok (.iconst 1, 1) := by decide +kernel
theorem dX5_ways_67 : decode cX5_ways 67 = .ok (.ireturn, 1) := by decide +kernel
def j_X5_ways (F : Nat) (a1 : Int32) (a2 : Int32) (st : sw_St) : Option (Int32 × sw_St) :=
bo (j_X5_isLettingSize F a1 st) (fun (r2 : Int32) =>
jn (
  some (((-1) : Int32), st)) (fun k3 =>
 (if r2 = 0 then (
  k3)
 else (
  bo (j_X5_isDial F a2 st) (fun (r7 : Int32) =>
  (if r7 = 0 then (
   k3)
  else (
   (if (st.1 15 0) = 0 then (
    some (((-4) : Int32), st))
   else (
    bd (j_X1_search F a1 a2 st) (fun (_ : Unit) (s11 : sw_St) =>
    bd (j_X5_tell F (((s11.1 54 4) : Int32).toInt64) 1 s11) (fun (_ : Unit) (s13 : sw_St) =>
    nm (sw_setC s13 0 14 (s13.1 54 5)) (fun (s14 : sw_St) =>
    some ((1 : Int32), s14)))))))))))))
set_option maxHeartbeats 4000000 in
set_option maxRecDepth 100000 in
theorem c_X5_ways (F : Nat) (a1 : Int32) (a2 : Int32) (st : sw_St) {r : Int32} {st1 : sw_St} (h : j_X5_ways F a1 a2 st = some (r, st1)) : sw_CI yX5_ways (.code yX5_ways cX5_ways 3 (some .int)) 14 (fun g => [.ref (g.1 0), .int a1, .int a2]) st r st1 := by
  refine sw_entI RX5 (fun g => [(0, .ref (g.1 0)), (1, .int a1), (2, .int a2)]) (by decide) rfl (fun _ => Nat.le_of_ble_eq_true rfl) (fun _ => rfl) ?_
  intro p l e s m args below meth c g X hr hlk
  unfold j_X5_ways at h
  refine sw_iload_n X 1 rfl rfl dX5_ways_0 ?_
  obtain ⟨r2, c1, h⟩ := bo_E h
  refine sw_callSI X (As := (fun g => [.int a1])) ws_X5_isLettingSize (by omega) (c_X5_isLettingSize F a1 st c1) rfl rfl (Nat.le_of_ble_eq_true rfl) wm_X5_230 dX5_ways_1 ?_
  refine jn0_E (sw_V p l e 14 s m args below meth c g (sw_A g s.heap.size) (sw_QI below g args s r st1) 3 14 [] [] st) h (fun h => ?_) (fun k3 J4 h => ?_)
  · refine sw_iconst X (v := (-1)) (by decide) dX5_ways_14 ?_
    exact sw_iret X hr hlk dX5_ways_15 h
  · refine sw_if_eq X 14 (by decide) dX5_ways_4 (fun q5 => ?_) (fun q5 => ?_)
    · have h := ite_T h q5
      refine sw_sub [] rfl ?_
      exact J4  h
    · have h := ite_F h q5
      refine sw_iload_n X 2 rfl rfl dX5_ways_7 ?_
      obtain ⟨r7, c6, h⟩ := bo_E h
      refine sw_callSI X (As := (fun g => [.int a2])) ws_X5_isDial (by omega) (c_X5_isDial F a2 st c6) rfl rfl (Nat.le_of_ble_eq_true rfl) wm_X5_233 dX5_ways_8 ?_
      refine sw_if_ne X 16 (by decide) dX5_ways_11 (fun q8 => ?_) (fun q8 => ?_)
      · have h := ite_F h q8
        refine sw_aload_n X 0 rfl rfl dX5_ways_16 ?_
        refine sw_getR X sw_cl5 (show sw_kd 0 = 5 from rfl) (k := 4) rfl (by decide) (o1 := 15) rfl wf_X5_29 dX5_ways_17 ?_
        refine sw_getI X sw_cl4 (show sw_kd 15 = 4 from rfl) (k := 0) rfl (by decide) wf_X5_134 dX5_ways_20 ?_
        refine sw_if_ne X 29 (by decide) dX5_ways_23 (fun q9 => ?_) (fun q9 => ?_)
        · have h := ite_F h q9
          refine sw_aload_n X 0 rfl rfl dX5_ways_29 ?_
          refine sw_getR X sw_cl5 (show sw_kd 0 = 5 from rfl) (k := 9) rfl (by decide) (o1 := 54) rfl wf_X5_54 dX5_ways_30 ?_
          refine sw_aload_n X 0 rfl rfl dX5_ways_33 ?_
          refine sw_getR X sw_cl5 (show sw_kd 0 = 5 from rfl) (k := 4) rfl (by decide) (o1 := 15) rfl wf_X5_29 dX5_ways_34 ?_
          refine sw_iload_n X 1 rfl rfl dX5_ways_37 ?_
          refine sw_iload_n X 2 rfl rfl dX5_ways_38 ?_
          obtain ⟨u16, s11, c10, h⟩ := bd_E h
          refine sw_callVV X (o := 54) (As := (fun g => [.ref (g.1 15), .int a1, .int a2])) sw_cl1 (show sw_kd 54 = 1 from rfl) ws_X1_search (by omega) (c_X1_search F a1 a2 st c10) rfl rfl (Nat.le_of_ble_eq_true rfl) wm_X5_236 dX5_ways_39 ?_
          refine sw_aload_n X 0 rfl rfl dX5_ways_42 ?_
          refine sw_aload_n X 0 rfl rfl dX5_ways_43 ?_
          refine sw_getR X sw_cl5 (show sw_kd 0 = 5 from rfl) (k := 9) rfl (by decide) (o1 := 54) rfl wf_X5_54 dX5_ways_44 ?_
          refine sw_getI X sw_cl1 (show sw_kd 54 = 1 from rfl) (k := 4) rfl (by decide) wf_X5_239 dX5_ways_47 ?_
          refine sw_i2l X dX5_ways_50 ?_
          refine sw_lconst X (v := 1) (by decide) dX5_ways_51 ?_
          obtain ⟨u15, s13, c12, h⟩ := bd_E h
          refine sw_callVV X (o := 0) (As := (fun g => [.long (((s11.1 54 4) : Int32).toInt64), .long 1])) sw_cl5 (show sw_kd 0 = 5 from rfl) ws_X5_tell (by omega) (c_X5_tell F (((s11.1 54 4) : Int32).toInt64) 1 s11 c12) rfl rfl (Nat.le_of_ble_eq_true rfl) wm_X5_242 dX5_ways_52 ?_
          refine sw_aload_n X 0 rfl rfl dX5_ways_55 ?_
          refine sw_aload_n X 0 rfl rfl dX5_ways_56 ?_
          refine sw_getR X sw_cl5 (show sw_kd 0 = 5 from rfl) (k := 9) rfl (by decide) (o1 := 54) rfl wf_X5_54 dX5_ways_57 ?_
          refine sw_getI X sw_cl1 (show sw_kd 54 = 1 from rfl) (k := 5) rfl (by decide) wf_X5_246 dX5_ways_60 ?_
          refine sw_putI X sw_cl5 (show sw_kd 0 = 5 from rfl) (k := 14) rfl (by decide) rfl rfl wf_X5_79 dX5_ways_63 (fun s14 es14 => ?_)
          have h := nm_E h es14
          refine sw_iconst X (v := 1) (by decide) dX5_ways_66 ?_
          exact sw_iret X hr hlk dX5_ways_67 h
        · have h := ite_T h q9
          refine sw_bipush X (v := (-4)) (by decide) dX5_ways_26 ?_
          exact sw_iret X hr hlk dX5_ways_28 h
      · have h := ite_T h q8
        refine sw_sub [] rfl ?_
        exact J4  h
theorem dX5_bread_0 : decode cX5_bread 0 = .ok (.iload_n 1, 1) := by decide +kernel
theorem dX5_bread_1 : decode cX5_bread 1 = .ok (.invokestatic 230, 3) := by decide +kernel
theorem dX5_bread_4 : decode cX5_bread 4 = .ok (.ifCond .eq 17, 3) := by decide +kernel
theorem dX5_bread_7 : decode cX5_bread 7 = .ok (.iload_n 2, 1) := by decide +kernel
theorem dX5_bread_8 : decode cX5_bread 8 = .ok (.invokestatic 233, 3) := by decide +kernel
theorem dX5_bread_11 : decode cX5_bread 11 = .ok (.ifCond .eq 10, 3) := by decide +kernel
theorem dX5_bread_14 : decode cX5_bread 14 = .ok (.iload_n 3, 1) := by decide +kernel
theorem dX5_bread_15 : decode cX5_bread 15 = .ok (.invokestatic 95, 3) := by decide +kernel
theorem dX5_bread_18 : decode cX5_bread 18 = .ok (.ifCond .ne 5, 3) := by decide +kernel
theorem dX5_bread_21 : decode cX5_bread 21 = .ok (.iconst (-1), 1) := by decide +kernel
theorem dX5_bread_22 : decode cX5_bread 22 = .ok (.ireturn, 1) := by decide +kernel
theorem dX5_bread_23 : decode cX5_bread 23 = .ok (.aload_n 0, 1) := by decide +kernel
theorem dX5_bread_24 : decode cX5_bread 24 = .ok (.getfield 29, 3) := by decide +kernel
theorem dX5_bread_27 : decode cX5_bread 27 = .ok (.getfield 134, 3) := by decide +kernel
theorem dX5_bread_30 : decode cX5_bread 30 = .ok (.ifCond .ne 6, 3) := by decide +kernel
theorem dX5_bread_33 : decode cX5_bread 33 = .ok (.bipush (-4), 2) := by decide +kernel
theorem dX5_bread_35 : decode cX5_bread 35 = .ok (.ireturn, 1) := by decide +kernel
theorem dX5_bread_36 : decode cX5_bread 36 = .ok (.aload_n 0, 1) := by decide +kernel
theorem dX5_bread_37 : decode cX5_bread 37 = .ok (.getfield 54, 3) := by decide +kernel
theorem dX5_bread_40 : decode cX5_bread 40 = .ok (.aload_n 0, 1) := by decide +kernel
theorem dX5_bread_41 : decode cX5_bread 41 = .ok (.getfield 29, 3) := by decide +kernel
theorem dX5_bread_44 : decode cX5_bread 44 = .ok (.iload_n 1, 1) := by decide +kernel
theorem dX5_bread_45 : decode cX5_bread 45 = .ok (.iload_n 2, 1) := by decide +kernel
theorem dX5_bread_46 : decode cX5_bread 46 = .ok (.invokevirtual 236, 3) := by decide +kernel
theorem dX5_bread_49 : decode cX5_bread 49 = .ok (.aload_n 0, 1) := by decide +kernel
theorem dX5_bread_50 : decode cX5_bread 50 = .ok (.getfield 54, 3) := by decide +kernel
theorem dX5_bread_53 : decode cX5_bread 53 = .ok (.getfield 246, 3) := by decide +kernel
theorem dX5_bread_56 : decode cX5_bread 56 = .ok (.bipush (-9), 2) := by decide +kernel
theorem dX5_bread_58 : decode cX5_bread 58 = .ok (.if_icmp .ne 6, 3) := by decide +kernel
theorem dX5_bread_61 : decode cX5_bread 61 = .ok (.bipush (-9), 2) := by decide +kernel
theorem dX5_bread_63 : decode cX5_bread 63 = .ok (.ireturn, 1) := by decide +kernel
theorem dX5_bread_64 : decode cX5_bread 64 = .ok (.aload_n 0, 1) := by decide +kernel
theorem dX5_bread_65 : decode cX5_bread 65 = .ok (.iload_n 3, 1) := by decide +kernel
theorem dX5_bread_66 : decode cX5_bread 66 = .ok (.aload_n 0, 1) := by decide +kernel
theorem dX5_bread_67 : decode cX5_bread 67 = .ok (.getfield 54, 3) := by decide +kernel
theorem dX5_bread_70 : decode cX5_bread 70 = .ok (.getfield 249, 3) := by decide +kernel
theorem dX5_bread_73 : decode cX5_bread 73 = .ok (.iload_n 1, 1) := by decide +kernel
theorem dX5_bread_74 : decode cX5_bread 74 = .ok (.invokevirtual 223, 3) := by decide +kernel
theorem dX5_bread_77 : decode cX5_bread 77 = .ok (.aload_n 0, 1) := by decide +kernel
theorem dX5_bread_78 : decode cX5_bread 78 = .ok (.getfield 54, 3) := by decide +kernel
theorem dX5_bread_81 : decode cX5_bread 81 = .ok (.getfield 246, 3) := by decide +kernel
theorem dX5_bread_84 : decode cX5_bread 84 = .ok (.ireturn, 1) := by decide +kernel
def j_X5_bread (F : Nat) (a1 : Int32) (a2 : Int32) (a3 : Int32) (st : sw_St) : Option (Int32 × sw_St) :=
bo (j_X5_isLettingSize F a1 st) (fun (r2 : Int32) =>
jn (
  some (((-1) : Int32), st)) (fun k3 =>
 (if r2 = 0 then (
  k3)
 else (
  bo (j_X5_isDial F a2 st) (fun (r7 : Int32) =>
  (if r7 = 0 then (
   k3)
  else (
   bo (j_X5_isRow F a3 st) (fun (r10 : Int32) =>
   (if r10 = 0 then (
    k3)
   else (
    (if (st.1 15 0) = 0 then (
     some (((-4) : Int32), st))
    else (
     bd (j_X1_search F a1 a2 st) (fun (_ : Unit) (s14 : sw_St) =>
     (if (s14.1 54 5) = (-9) then (
      some (((-9) : Int32), s14))
     else (
      bd (j_X5_fillRow F 56 a3 a1 s14) (fun (_ : Unit) (s17 : sw_St) =>
      some ((s17.1 54 5 : Int32), s17)))))))))))))))))
set_option maxHeartbeats 4000000 in
set_option maxRecDepth 100000 in
theorem c_X5_bread (F : Nat) (a1 : Int32) (a2 : Int32) (a3 : Int32) (st : sw_St) {r : Int32} {st1 : sw_St} (h : j_X5_bread F a1 a2 a3 st = some (r, st1)) : sw_CI yX5_bread (.code yX5_bread cX5_bread 4 (some .int)) 14 (fun g => [.ref (g.1 0), .int a1, .int a2, .int a3]) st r st1 := by
  refine sw_entI RX5 (fun g => [(0, .ref (g.1 0)), (1, .int a1), (2, .int a2), (3, .int a3)]) (by decide) rfl (fun _ => Nat.le_of_ble_eq_true rfl) (fun _ => rfl) ?_
  intro p l e s m args below meth c g X hr hlk
  unfold j_X5_bread at h
  refine sw_iload_n X 1 rfl rfl dX5_bread_0 ?_
  obtain ⟨r2, c1, h⟩ := bo_E h
  refine sw_callSI X (As := (fun g => [.int a1])) ws_X5_isLettingSize (by omega) (c_X5_isLettingSize F a1 st c1) rfl rfl (Nat.le_of_ble_eq_true rfl) wm_X5_230 dX5_bread_1 ?_
  refine jn0_E (sw_V p l e 14 s m args below meth c g (sw_A g s.heap.size) (sw_QI below g args s r st1) 4 21 [] [] st) h (fun h => ?_) (fun k3 J4 h => ?_)
  · refine sw_iconst X (v := (-1)) (by decide) dX5_bread_21 ?_
    exact sw_iret X hr hlk dX5_bread_22 h
  · refine sw_if_eq X 21 (by decide) dX5_bread_4 (fun q5 => ?_) (fun q5 => ?_)
    · have h := ite_T h q5
      refine sw_sub [] rfl ?_
      exact J4  h
    · have h := ite_F h q5
      refine sw_iload_n X 2 rfl rfl dX5_bread_7 ?_
      obtain ⟨r7, c6, h⟩ := bo_E h
      refine sw_callSI X (As := (fun g => [.int a2])) ws_X5_isDial (by omega) (c_X5_isDial F a2 st c6) rfl rfl (Nat.le_of_ble_eq_true rfl) wm_X5_233 dX5_bread_8 ?_
      refine sw_if_eq X 21 (by decide) dX5_bread_11 (fun q8 => ?_) (fun q8 => ?_)
      · have h := ite_T h q8
        refine sw_sub [] rfl ?_
        exact J4  h
      · have h := ite_F h q8
        refine sw_iload_n X 3 rfl rfl dX5_bread_14 ?_
        obtain ⟨r10, c9, h⟩ := bo_E h
        refine sw_callSI X (As := (fun g => [.int a3])) ws_X5_isRow (by omega) (c_X5_isRow F a3 st c9) rfl rfl (Nat.le_of_ble_eq_true rfl) wm_X5_95 dX5_bread_15 ?_
        refine sw_if_ne X 23 (by decide) dX5_bread_18 (fun q11 => ?_) (fun q11 => ?_)
        · have h := ite_F h q11
          refine sw_aload_n X 0 rfl rfl dX5_bread_23 ?_
          refine sw_getR X sw_cl5 (show sw_kd 0 = 5 from rfl) (k := 4) rfl (by decide) (o1 := 15) rfl wf_X5_29 dX5_bread_24 ?_
          refine sw_getI X sw_cl4 (show sw_kd 15 = 4 from rfl) (k := 0) rfl (by decide) wf_X5_134 dX5_bread_27 ?_
          refine sw_if_ne X 36 (by decide) dX5_bread_30 (fun q12 => ?_) (fun q12 => ?_)
          · have h := ite_F h q12
            refine sw_aload_n X 0 rfl rfl dX5_bread_36 ?_
            refine sw_getR X sw_cl5 (show sw_kd 0 = 5 from rfl) (k := 9) rfl (by decide) (o1 := 54) rfl wf_X5_54 dX5_bread_37 ?_
            refine sw_aload_n X 0 rfl rfl dX5_bread_40 ?_
            refine sw_getR X sw_cl5 (show sw_kd 0 = 5 from rfl) (k := 4) rfl (by decide) (o1 := 15) rfl wf_X5_29 dX5_bread_41 ?_
            refine sw_iload_n X 1 rfl rfl dX5_bread_44 ?_
            refine sw_iload_n X 2 rfl rfl dX5_bread_45 ?_
            obtain ⟨u19, s14, c13, h⟩ := bd_E h
            refine sw_callVV X (o := 54) (As := (fun g => [.ref (g.1 15), .int a1, .int a2])) sw_cl1 (show sw_kd 54 = 1 from rfl) ws_X1_search (by omega) (c_X1_search F a1 a2 st c13) rfl rfl (Nat.le_of_ble_eq_true rfl) wm_X5_236 dX5_bread_46 ?_
            refine sw_aload_n X 0 rfl rfl dX5_bread_49 ?_
            refine sw_getR X sw_cl5 (show sw_kd 0 = 5 from rfl) (k := 9) rfl (by decide) (o1 := 54) rfl wf_X5_54 dX5_bread_50 ?_
            refine sw_getI X sw_cl1 (show sw_kd 54 = 1 from rfl) (k := 5) rfl (by decide) wf_X5_246 dX5_bread_53 ?_
            refine sw_bipush X (v := (-9)) (by decide) dX5_bread_56 ?_
            refine sw_icmp_ne X 64 (by decide) dX5_bread_58 (fun q15 => ?_) (fun q15 => ?_)
            · have h := ite_F h q15
              refine sw_aload_n X 0 rfl rfl dX5_bread_64 ?_
              refine sw_iload_n X 3 rfl rfl dX5_bread_65 ?_
              refine sw_aload_n X 0 rfl rfl dX5_bread_66 ?_
              refine sw_getR X sw_cl5 (show sw_kd 0 = 5 from rfl) (k := 9) rfl (by decide) (o1 := 54) rfl wf_X5_54 dX5_bread_67 ?_
              refine sw_getR X sw_cl1 (show sw_kd 54 = 1 from rfl) (k := 3) rfl (by decide) (o1 := 56) rfl wf_X5_249 dX5_bread_70 ?_
              refine sw_iload_n X 1 rfl rfl dX5_bread_73 ?_
              obtain ⟨u18, s17, c16, h⟩ := bd_E h
              refine sw_callVV X (o := 0) (As := (fun g => [.int a3, .ref (g.1 56), .int a1])) sw_cl5 (show sw_kd 0 = 5 from rfl) ws_X5_fillRow (by omega) (c_X5_fillRow F (show sw_kd 56 = 8 from rfl) a3 a1 s14 c16) rfl rfl (Nat.le_of_ble_eq_true rfl) wm_X5_223 dX5_bread_74 ?_
              refine sw_aload_n X 0 rfl rfl dX5_bread_77 ?_
              refine sw_getR X sw_cl5 (show sw_kd 0 = 5 from rfl) (k := 9) rfl (by decide) (o1 := 54) rfl wf_X5_54 dX5_bread_78 ?_
              refine sw_getI X sw_cl1 (show sw_kd 54 = 1 from rfl) (k := 5) rfl (by decide) wf_X5_246 dX5_bread_81 ?_
              exact sw_iret X hr hlk dX5_bread_84 h
            · have h := ite_T h q15
              refine sw_bipush X (v := (-9)) (by decide) dX5_bread_61 ?_
              exact sw_iret X hr hlk dX5_bread_63 h
          · have h := ite_T h q12
            refine sw_bipush X (v := (-4)) (by decide) dX5_bread_33 ?_
            exact sw_iret X hr hlk dX5_bread_35 h
        · have h := ite_T h q11
          refine sw_sub [] rfl ?_
          exact J4  h
theorem dX5_goes_0 : decode cX5_goes 0 = .ok (.iload_n 1, 1) := by decide +kernel
theorem dX5_goes_1 : decode cX5_goes 1 = .ok (.invokestatic 230, 3) := by decide +kernel
theorem dX5_goes_4 : decode cX5_goes 4 = .ok (.ifCond .ne 5, 3) := by decide +kernel
theorem dX5_goes_7 : decode cX5_goes 7 = .ok (.iconst (-1), 1) := by decide +kernel
theorem dX5_goes_8 : decode cX5_goes 8 = .ok (.ireturn, 1) := by decide +kernel
theorem dX5_goes_9 : decode cX5_goes 9 = .ok (.aload_n 0, 1) := by decide +kernel
theorem dX5_goes_10 : decode cX5_goes 10 = .ok (.getfield 29, 3) := by decide +kernel
theorem dX5_goes_13 : decode cX5_goes 13 = .ok (.getfield 134, 3) := by decide +kernel
theorem dX5_goes_16 : decode cX5_goes 16 = .ok (.ifCond .ne 6, 3) := by decide +kernel
theorem dX5_goes_19 : decode cX5_goes 19 = .ok (.bipush (-4), 2) := by decide +kernel
theorem dX5_goes_21 : decode cX5_goes 21 = .ok (.ireturn, 1) := by decide +kernel
theorem dX5_goes_22 : decode cX5_goes 22 = .ok (.aload_n 0, 1) := by decide +kernel
theorem dX5_goes_23 : decode cX5_goes 23 = .ok (.getfield 54, 3) := by decide +kernel
theorem dX5_goes_26 : decode cX5_goes 26 = .ok (.aload_n 0, 1) := by decide +kernel
theorem dX5_goes_27 : decode cX5_goes 27 = .ok (.getfield 29, 3) := by decide +kernel
theorem dX5_goes_30 : decode cX5_goes 30 = .ok (.iload_n 1, 1) := by decide +kernel
theorem dX5_goes_31 : decode cX5_goes 31 = .ok (.iconst 0, 1) := by decide +kernel
theorem dX5_goes_32 : decode cX5_goes 32 = .ok (.invokevirtual 236, 3) := by decide +kernel
theorem dX5_goes_35 : decode cX5_goes 35 = .ok (.aload_n 0, 1) := by decide +kernel
theorem dX5_goes_36 : decode cX5_goes 36 = .ok (.aload_n 0, 1) := by decide +kernel
theorem dX5_goes_37 : decode cX5_goes 37 = .ok (.getfield 54, 3) := by decide +kernel
theorem dX5_goes_40 : decode cX5_goes 40 = .ok (.getfield 250, 3) := by decide +kernel
theorem dX5_goes_43 : decode cX5_goes 43 = .ok (.putfield 79, 3) := by decide +kernel
theorem dX5_goes_46 : decode cX5_goes 46 = .ok (.aload_n 0, 1) := by decide +kernel
theorem dX5_goes_47 : decode cX5_goes 47 = .ok (.getfield 54, 3) := by decide +kernel
theorem dX5_goes_50 : decode cX5_goes 50 = .ok (.getfield 253, 3) := by decide +kernel
theorem dX5_goes_53 : decode cX5_goes 53 = .ok (.ireturn, 1) := by decide +kernel
def j_X5_goes (F : Nat) (a1 : Int32) (st : sw_St) : Option (Int32 × sw_St) :=
bo (j_X5_isLettingSize F a1 st) (fun (r2 : Int32) =>
(if r2 = 0 then (
 some (((-1) : Int32), st))
else (
 (if (st.1 15 0) = 0 then (
  some (((-4) : Int32), st))
 else (
  bd (j_X1_search F a1 0 st) (fun (_ : Unit) (s6 : sw_St) =>
  nm (sw_setC s6 0 14 (s6.1 54 7)) (fun (s7 : sw_St) =>
  some ((s7.1 54 6 : Int32), s7))))))))
set_option maxHeartbeats 4000000 in
set_option maxRecDepth 100000 in
theorem c_X5_goes (F : Nat) (a1 : Int32) (st : sw_St) {r : Int32} {st1 : sw_St} (h : j_X5_goes F a1 st = some (r, st1)) : sw_CI yX5_goes (.code yX5_goes cX5_goes 2 (some .int)) 14 (fun g => [.ref (g.1 0), .int a1]) st r st1 := by
  refine sw_entI RX5 (fun g => [(0, .ref (g.1 0)), (1, .int a1)]) (by decide) rfl (fun _ => Nat.le_of_ble_eq_true rfl) (fun _ => rfl) ?_
  intro p l e s m args below meth c g X hr hlk
  unfold j_X5_goes at h
  refine sw_iload_n X 1 rfl rfl dX5_goes_0 ?_
  obtain ⟨r2, c1, h⟩ := bo_E h
  refine sw_callSI X (As := (fun g => [.int a1])) ws_X5_isLettingSize (by omega) (c_X5_isLettingSize F a1 st c1) rfl rfl (Nat.le_of_ble_eq_true rfl) wm_X5_230 dX5_goes_1 ?_
  refine sw_if_ne X 9 (by decide) dX5_goes_4 (fun q3 => ?_) (fun q3 => ?_)
  · have h := ite_F h q3
    refine sw_aload_n X 0 rfl rfl dX5_goes_9 ?_
    refine sw_getR X sw_cl5 (show sw_kd 0 = 5 from rfl) (k := 4) rfl (by decide) (o1 := 15) rfl wf_X5_29 dX5_goes_10 ?_
    refine sw_getI X sw_cl4 (show sw_kd 15 = 4 from rfl) (k := 0) rfl (by decide) wf_X5_134 dX5_goes_13 ?_
    refine sw_if_ne X 22 (by decide) dX5_goes_16 (fun q4 => ?_) (fun q4 => ?_)
    · have h := ite_F h q4
      refine sw_aload_n X 0 rfl rfl dX5_goes_22 ?_
      refine sw_getR X sw_cl5 (show sw_kd 0 = 5 from rfl) (k := 9) rfl (by decide) (o1 := 54) rfl wf_X5_54 dX5_goes_23 ?_
      refine sw_aload_n X 0 rfl rfl dX5_goes_26 ?_
      refine sw_getR X sw_cl5 (show sw_kd 0 = 5 from rfl) (k := 4) rfl (by decide) (o1 := 15) rfl wf_X5_29 dX5_goes_27 ?_
      refine sw_iload_n X 1 rfl rfl dX5_goes_30 ?_
      refine sw_iconst X (v := 0) (by decide) dX5_goes_31 ?_
      obtain ⟨u8, s6, c5, h⟩ := bd_E h
      refine sw_callVV X (o := 54) (As := (fun g => [.ref (g.1 15), .int a1, .int 0])) sw_cl1 (show sw_kd 54 = 1 from rfl) ws_X1_search (by omega) (c_X1_search F a1 0 st c5) rfl rfl (Nat.le_of_ble_eq_true rfl) wm_X5_236 dX5_goes_32 ?_
      refine sw_aload_n X 0 rfl rfl dX5_goes_35 ?_
      refine sw_aload_n X 0 rfl rfl dX5_goes_36 ?_
      refine sw_getR X sw_cl5 (show sw_kd 0 = 5 from rfl) (k := 9) rfl (by decide) (o1 := 54) rfl wf_X5_54 dX5_goes_37 ?_
      refine sw_getI X sw_cl1 (show sw_kd 54 = 1 from rfl) (k := 7) rfl (by decide) wf_X5_250 dX5_goes_40 ?_
      refine sw_putI X sw_cl5 (show sw_kd 0 = 5 from rfl) (k := 14) rfl (by decide) rfl rfl wf_X5_79 dX5_goes_43 (fun s7 es7 => ?_)
      have h := nm_E h es7
      refine sw_aload_n X 0 rfl rfl dX5_goes_46 ?_
      refine sw_getR X sw_cl5 (show sw_kd 0 = 5 from rfl) (k := 9) rfl (by decide) (o1 := 54) rfl wf_X5_54 dX5_goes_47 ?_
      refine sw_getI X sw_cl1 (show sw_kd 54 = 1 from rfl) (k := 6) rfl (by decide) wf_X5_253 dX5_goes_50 ?_
      exact sw_iret X hr hlk dX5_goes_53 h
    · have h := ite_T h q4
      refine sw_bipush X (v := (-4)) (by decide) dX5_goes_19 ?_
      exact sw_iret X hr hlk dX5_goes_21 h
  · have h := ite_T h q3
    refine sw_iconst X (v := (-1)) (by decide) dX5_goes_7 ?_
    exact sw_iret X hr hlk dX5_goes_8 h
