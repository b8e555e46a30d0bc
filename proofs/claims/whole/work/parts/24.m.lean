theorem dX6_undo_0 : decode cX6_undo 0 = .ok (.iload_n 1, 1) := by decide +kernel
theorem dX6_undo_1 : decode cX6_undo 1 = .ok (.i2l, 1) := by decide +kernel
theorem dX6_undo_2 : decode cX6_undo 2 = .ok (.lconst 0, 1) := by decide +kernel
theorem dX6_undo_3 : decode cX6_undo 3 = .ok (.aload_n 0, 1) := by decide +kernel
theorem dX6_undo_4 : decode cX6_undo 4 = .ok (.getfield 7, 3) := by decide +kernel
theorem dX6_undo_7 : decode cX6_undo 7 = .ok (.iconst 0, 1) := by decide +kernel
theorem dX6_undo_8 : decode cX6_undo 8 = .ok (.iaload, 1) := by decide +kernel
theorem dX6_undo_9 : decode cX6_undo 9 = .ok (.i2l, 1) := by decide +kernel
theorem dX6_undo_10 : decode cX6_undo 10 = .ok (.invokestatic 63, 3) := by decide +kernel
theorem dX6_undo_13 : decode cX6_undo 13 = .ok (.ifCond .ne 5, 3) := by decide +kernel
theorem dX6_undo_16 : decode cX6_undo 16 = .ok (.iconst (-1), 1) := by decide +kernel
theorem dX6_undo_17 : decode cX6_undo 17 = .ok (.ireturn, 1) := by decide +kernel
theorem dX6_undo_18 : decode cX6_undo 18 = .ok (.aload_n 0, 1) := by decide +kernel
theorem dX6_undo_19 : decode cX6_undo 19 = .ok (.getfield 7, 3) := by decide +kernel
theorem dX6_undo_22 : decode cX6_undo 22 = .ok (.iconst 0, 1) := by decide +kernel
theorem dX6_undo_23 : decode cX6_undo 23 = .ok (.iaload, 1) := by decide +kernel
theorem dX6_undo_24 : decode cX6_undo 24 = .ok (.iload_n 1, 1) := by decide +kernel
theorem dX6_undo_25 : decode cX6_undo 25 = .ok (.isub, 1) := by decide +kernel
theorem dX6_undo_26 : decode cX6_undo 26 = .ok (.istore_n 2, 1) := by decide +kernel
theorem dX6_undo_27 : decode cX6_undo 27 = .ok (.iconst 0, 1) := by decide +kernel
theorem dX6_undo_28 : decode cX6_undo 28 = .ok (.istore_n 3, 1) := by decide +kernel
theorem dX6_undo_29 : decode cX6_undo 29 = .ok (.iload_n 3, 1) := by decide +kernel
theorem dX6_undo_30 : decode cX6_undo 30 = .ok (.iconst 5, 1) := by decide +kernel
theorem dX6_undo_31 : decode cX6_undo 31 = .ok (.if_icmp .ge 34, 3) := by decide +kernel
theorem dX6_undo_34 : decode cX6_undo 34 = .ok (.iload_n 2, 1) := by decide +kernel
theorem dX6_undo_35 : decode cX6_undo 35 = .ok (.ifCond .le 30, 3) := by decide +kernel
theorem dX6_undo_38 : decode cX6_undo 38 = .ok (.aload_n 0, 1) := by decide +kernel
theorem dX6_undo_39 : decode cX6_undo 39 = .ok (.getfield 7, 3) := by decide +kernel
theorem dX6_undo_42 : decode cX6_undo 42 = .ok (.iconst 1, 1) := by decide +kernel
theorem dX6_undo_43 : decode cX6_undo 43 = .ok (.iload_n 3, 1) := by decide +kernel
theorem dX6_undo_44 : decode cX6_undo 44 = .ok (.iadd, 1) := by decide +kernel
theorem dX6_undo_45 : decode cX6_undo 45 = .ok (.aload_n 0, 1) := by decide +kernel
theorem dX6_undo_46 : decode cX6_undo 46 = .ok (.getfield 7, 3) := by decide +kernel
theorem dX6_undo_49 : decode cX6_undo 49 = .ok (.bipush 7, 2) := by decide +kernel
theorem dX6_undo_51 : decode cX6_undo 51 = .ok (.iconst 5, 1) := by decide +kernel
theorem dX6_undo_52 : decode cX6_undo 52 = .ok (.iload_n 1, 1) := by decide +kernel
theorem dX6_undo_53 : decode cX6_undo 53 = .ok (.imul, 1) := by decide +kernel
theorem dX6_undo_54 : decode cX6_undo 54 = .ok (.iadd, 1) := by decide +kernel
theorem dX6_undo_55 : decode cX6_undo 55 = .ok (.iload_n 3, 1) := by decide +kernel
theorem dX6_undo_56 : decode cX6_undo 56 = .ok (.iadd, 1) := by decide +kernel
theorem dX6_undo_57 : decode cX6_undo 57 = .ok (.iaload, 1) := by decide +kernel
theorem dX6_undo_58 : decode cX6_undo 58 = .ok (.iastore, 1) := by decide +kernel
theorem dX6_undo_59 : decode cX6_undo 59 = .ok (.iinc 3 1, 3) := by decide +kernel
theorem dX6_undo_62 : decode cX6_undo 62 = .ok (.goto (-33), 3) := by decide +kernel
theorem dX6_undo_65 : decode cX6_undo 65 = .ok (.aload_n 0, 1) := by decide +kernel
theorem dX6_undo_66 : decode cX6_undo 66 = .ok (.getfield 7, 3) := by decide +kernel
theorem dX6_undo_69 : decode cX6_undo 69 = .ok (.iconst 0, 1) := by decide +kernel
theorem dX6_undo_70 : decode cX6_undo 70 = .ok (.iload_n 1, 1) := by decide +kernel
theorem dX6_undo_71 : decode cX6_undo 71 = .ok (.iastore, 1) := by decide +kernel
theorem dX6_undo_72 : decode cX6_undo 72 = .ok (.iload_n 2, 1) := by decide +kernel
theorem dX6_undo_73 : decode cX6_undo 73 = .ok (.ireturn, 1) := by decide +kernel
def j_X6_undo (F : Nat) (a1 : Int32) (st : sw_St) : Option (Int32 × sw_St) :=
bo (j_X6_in F ((a1 : Int32).toInt64) 0 (((st.1 64 0) : Int32).toInt64) st) (fun (r3 : Int32) =>
(if r3 = 0 then (
 some (((-1) : Int32), st))
else (
 nm ((st.1 64 0) - a1) (fun (x6 : Int32) =>
 lz2 (fun f9 (x7 : Int32) (s8 : sw_St) =>
  jn (
    nm (sw_setC s8 64 0 a1) (fun (s14 : sw_St) =>
    some ((x6 : Int32), s14))) (fun k11 =>
   (if 5 ≤ x7 then (
    k11)
   else (
    (if x6 ≤ 0 then (
     k11)
    else (
     bnd ((7 + (5 * a1)) + x7) 835 (
     bnd (1 + x7) 835 (
     nm (sw_setC s8 64 ((1 + x7) : Int32).toNatClampNeg (s8.1 64 (((7 + (5 * a1)) + x7) : Int32).toNatClampNeg)) (fun (s19 : sw_St) =>
     nm (x7 + 1) (fun (x20 : Int32) =>
     f9 x20 s19)))))))))) F 0 st))))
set_option maxHeartbeats 4000000 in
set_option maxRecDepth 100000 in
theorem c_X6_undo (F : Nat) (a1 : Int32) (st : sw_St) {r : Int32} {st1 : sw_St} (h : j_X6_undo F a1 st = some (r, st1)) : sw_CI yX6_undo (.code yX6_undo cX6_undo 4 (some .int)) 2 (fun g => [.ref (g.1 63), .int a1]) st r st1 := by
  refine sw_entI RX6 (fun g => [(0, .ref (g.1 63)), (1, .int a1)]) (by decide) rfl (fun _ => Nat.le_of_ble_eq_true rfl) (fun _ => rfl) ?_
  intro p l e s m args below meth c g X hr hlk
  unfold j_X6_undo at h
  refine sw_iload_n X 1 rfl rfl dX6_undo_0 ?_
  refine sw_i2l X dX6_undo_1 ?_
  refine sw_lconst X (v := 0) (by decide) dX6_undo_2 ?_
  refine sw_aload_n X 0 rfl rfl dX6_undo_3 ?_
  refine sw_getR X sw_cl6 (show sw_kd 63 = 6 from rfl) (k := 0) rfl (by decide) (o1 := 64) rfl wf_X6_7 dX6_undo_4 ?_
  refine sw_iconst X (v := 0) (by decide) dX6_undo_7 ?_
  refine sw_iald X (show sw_kd 64 = 8 from rfl) (n := 835) rfl (i := 0) (by unfold vp_in; decide) dX6_undo_8 ?_
  refine sw_i2l X dX6_undo_9 ?_
  obtain ⟨r3, c2, h⟩ := bo_E h
  refine sw_callSI X (As := (fun g => [.long ((a1 : Int32).toInt64), .long 0, .long (((st.1 64 0) : Int32).toInt64)])) ws_X6_in (by omega) (c_X6_in F ((a1 : Int32).toInt64) 0 (((st.1 64 0) : Int32).toInt64) st c2) rfl rfl (Nat.le_of_ble_eq_true rfl) wm_X6_63 dX6_undo_10 ?_
  refine sw_if_ne X 18 (by decide) dX6_undo_13 (fun q4 => ?_) (fun q4 => ?_)
  · have h := ite_F h q4
    refine sw_aload_n X 0 rfl rfl dX6_undo_18 ?_
    refine sw_getR X sw_cl6 (show sw_kd 63 = 6 from rfl) (k := 0) rfl (by decide) (o1 := 64) rfl wf_X6_7 dX6_undo_19 ?_
    refine sw_iconst X (v := 0) (by decide) dX6_undo_22 ?_
    refine sw_iald X (show sw_kd 64 = 8 from rfl) (n := 835) rfl (i := 0) (by unfold vp_in; decide) dX6_undo_23 ?_
    refine sw_iload_n X 1 rfl rfl dX6_undo_24 ?_
    refine sw_isub X dX6_undo_25 ?_
    refine sw_topi (fun x6 ex6 => ?_)
    have h := nm_E h ex6
    refine sw_istore_n X [(2, .int x6), (0, .ref (g.1 63)), (1, .int a1)] rfl (by decide) rfl dX6_undo_26 ?_
    refine sw_iconst X (v := 0) (by decide) dX6_undo_27 ?_
    refine sw_istore_n X [(3, .int 0), (2, .int x6), (0, .ref (g.1 63)), (1, .int a1)] rfl (by decide) rfl dX6_undo_28 ?_
    refine sw_sub [2, 3, 1, 0] rfl ?_
    refine lz2_E (fun (x7 : Int32) (s8 : sw_St) => sw_V p l e 2 s m args below meth c g (sw_A g s.heap.size) (sw_QI below g args s r st1) 4 29 [(0, .ref (g.1 63)), (1, .int a1), (2, .int x6), (3, .int x7)] [] s8) h (fun f9 ih10 x7 s8 h => ?_)
    refine sw_iload_n X 3 rfl rfl dX6_undo_29 ?_
    refine sw_iconst X (v := 5) (by decide) dX6_undo_30 ?_
    refine jn0_E (sw_V p l e 2 s m args below meth c g (sw_A g s.heap.size) (sw_QI below g args s r st1) 4 65 [(0, .ref (g.1 63)), (1, .int a1), (2, .int x6)] [] s8) h (fun h => ?_) (fun k11 J12 h => ?_)
    · refine sw_aload_n X 0 rfl rfl dX6_undo_65 ?_
      refine sw_getR X sw_cl6 (show sw_kd 63 = 6 from rfl) (k := 0) rfl (by decide) (o1 := 64) rfl wf_X6_7 dX6_undo_66 ?_
      refine sw_iconst X (v := 0) (by decide) dX6_undo_69 ?_
      refine sw_iload_n X 1 rfl rfl dX6_undo_70 ?_
      refine sw_iast X (show sw_kd 64 = 8 from rfl) (n := 835) rfl (i := 0) (by unfold vp_in; decide) dX6_undo_71 (fun s14 es14 => ?_)
      have h := nm_E h es14
      refine sw_iload_n X 2 rfl rfl dX6_undo_72 ?_
      exact sw_iret X hr hlk dX6_undo_73 h
    · refine sw_icmp_ge X 65 (by decide) dX6_undo_31 (fun q15 => ?_) (fun q15 => ?_)
      · have h := ite_T h q15
        refine sw_sub [0, 1, 2] rfl ?_
        exact J12  h
      · have h := ite_F h q15
        refine sw_iload_n X 2 rfl rfl dX6_undo_34 ?_
        refine sw_if_le X 65 (by decide) dX6_undo_35 (fun q16 => ?_) (fun q16 => ?_)
        · have h := ite_T h q16
          refine sw_sub [0, 1, 2] rfl ?_
          exact J12  h
        · have h := ite_F h q16
          refine sw_aload_n X 0 rfl rfl dX6_undo_38 ?_
          refine sw_getR X sw_cl6 (show sw_kd 63 = 6 from rfl) (k := 0) rfl (by decide) (o1 := 64) rfl wf_X6_7 dX6_undo_39 ?_
          refine sw_iconst X (v := 1) (by decide) dX6_undo_42 ?_
          refine sw_iload_n X 3 rfl rfl dX6_undo_43 ?_
          refine sw_iadd X dX6_undo_44 ?_
          refine sw_aload_n X 0 rfl rfl dX6_undo_45 ?_
          refine sw_getR X sw_cl6 (show sw_kd 63 = 6 from rfl) (k := 0) rfl (by decide) (o1 := 64) rfl wf_X6_7 dX6_undo_46 ?_
          refine sw_bipush X (v := 7) (by decide) dX6_undo_49 ?_
          refine sw_iconst X (v := 5) (by decide) dX6_undo_51 ?_
          refine sw_iload_n X 1 rfl rfl dX6_undo_52 ?_
          refine sw_imul X dX6_undo_53 ?_
          refine sw_iadd X dX6_undo_54 ?_
          refine sw_iload_n X 3 rfl rfl dX6_undo_55 ?_
          refine sw_iadd X dX6_undo_56 ?_
          obtain ⟨q17, h⟩ := bnd_E h
          refine sw_iald X (show sw_kd 64 = 8 from rfl) (n := 835) rfl q17 dX6_undo_57 ?_
          obtain ⟨q18, h⟩ := bnd_E h
          refine sw_iast X (show sw_kd 64 = 8 from rfl) (n := 835) rfl q18 dX6_undo_58 (fun s19 es19 => ?_)
          have h := nm_E h es19
          obtain ⟨x20, ex20⟩ : ∃ y : Int32, y = x7 + 1 := ⟨_, rfl⟩
          have h := nm_E h ex20
          refine sw_iinc X 3 x20 [(3, .int x20), (0, .ref (g.1 63)), (1, .int a1), (2, .int x6)] rfl (by rw [ex20]; rfl) (by decide) rfl dX6_undo_59 ?_
          refine sw_goto X 29 (by decide) dX6_undo_62 ?_
          refine sw_sub [1, 2, 3, 0] rfl ?_
          exact ih10 _ _ h
  · have h := ite_T h q4
    refine sw_iconst X (v := (-1)) (by decide) dX6_undo_16 ?_
    exact sw_iret X hr hlk dX6_undo_17 h
theorem dX6_copyTown_0 : decode cX6_copyTown 0 = .ok (.iconst 0, 1) := by decide +kernel
theorem dX6_copyTown_1 : decode cX6_copyTown 1 = .ok (.istore_n 3, 1) := by decide +kernel
theorem dX6_copyTown_2 : decode cX6_copyTown 2 = .ok (.iload_n 3, 1) := by decide +kernel
theorem dX6_copyTown_3 : decode cX6_copyTown 3 = .ok (.sipush 207, 3) := by decide +kernel
theorem dX6_copyTown_6 : decode cX6_copyTown 6 = .ok (.if_icmp .ge 25, 3) := by decide +kernel
theorem dX6_copyTown_9 : decode cX6_copyTown 9 = .ok (.aload_n 0, 1) := by decide +kernel
theorem dX6_copyTown_10 : decode cX6_copyTown 10 = .ok (.getfield 7, 3) := by decide +kernel
theorem dX6_copyTown_13 : decode cX6_copyTown 13 = .ok (.iload_n 2, 1) := by decide +kernel
theorem dX6_copyTown_14 : decode cX6_copyTown 14 = .ok (.iload_n 3, 1) := by decide +kernel
theorem dX6_copyTown_15 : decode cX6_copyTown 15 = .ok (.iadd, 1) := by decide +kernel
theorem dX6_copyTown_16 : decode cX6_copyTown 16 = .ok (.aload_n 0, 1) := by decide +kernel
theorem dX6_copyTown_17 : decode cX6_copyTown 17 = .ok (.getfield 7, 3) := by decide +kernel
theorem dX6_copyTown_20 : decode cX6_copyTown 20 = .ok (.iload_n 1, 1) := by decide +kernel
theorem dX6_copyTown_21 : decode cX6_copyTown 21 = .ok (.iload_n 3, 1) := by decide +kernel
theorem dX6_copyTown_22 : decode cX6_copyTown 22 = .ok (.iadd, 1) := by decide +kernel
theorem dX6_copyTown_23 : decode cX6_copyTown 23 = .ok (.iaload, 1) := by decide +kernel
theorem dX6_copyTown_24 : decode cX6_copyTown 24 = .ok (.iastore, 1) := by decide +kernel
theorem dX6_copyTown_25 : decode cX6_copyTown 25 = .ok (.iinc 3 1, 3) := by decide +kernel
theorem dX6_copyTown_28 : decode cX6_copyTown 28 = .ok (.goto (-26), 3) := by decide +kernel
theorem dX6_copyTown_31 : decode cX6_copyTown 31 = .ok (.return_, 1) := by decide +kernel
def j_X6_copyTown (F : Nat) (a1 : Int32) (a2 : Int32) (st : sw_St) : Option (Unit × sw_St) :=
lz2 (fun f3 (x1 : Int32) (s2 : sw_St) =>
 (if 207 ≤ x1 then (
  some ((), s2))
 else (
  bnd (a1 + x1) 835 (
  bnd (a2 + x1) 835 (
  nm (sw_setC s2 64 ((a2 + x1) : Int32).toNatClampNeg (s2.1 64 ((a1 + x1) : Int32).toNatClampNeg)) (fun (s8 : sw_St) =>
  nm (x1 + 1) (fun (x9 : Int32) =>
  f3 x9 s8))))))) F 0 st
set_option maxHeartbeats 4000000 in
set_option maxRecDepth 100000 in
theorem c_X6_copyTown (F : Nat) (a1 : Int32) (a2 : Int32) (st : sw_St) {st1 : sw_St} (h : j_X6_copyTown F a1 a2 st = some ((), st1)) : sw_CV yX6_copyTown (.code yX6_copyTown cX6_copyTown 4 none) 1 (fun g => [.ref (g.1 63), .int a1, .int a2]) st  st1 := by
  refine sw_entV RX6 (fun g => [(0, .ref (g.1 63)), (1, .int a1), (2, .int a2)]) (by decide) rfl (fun _ => Nat.le_of_ble_eq_true rfl) (fun _ => rfl) ?_
  intro p l e s m args below meth c g X hr hlk
  unfold j_X6_copyTown at h
  refine sw_iconst X (v := 0) (by decide) dX6_copyTown_0 ?_
  refine sw_istore_n X [(3, .int 0), (0, .ref (g.1 63)), (1, .int a1), (2, .int a2)] rfl (by decide) rfl dX6_copyTown_1 ?_
  refine sw_sub [1, 2, 3, 0] rfl ?_
  refine lz2_E (fun (x1 : Int32) (s2 : sw_St) => sw_V p l e 1 s m args below meth c g (sw_A g s.heap.size) (sw_QV below g args s  st1) 4 2 [(0, .ref (g.1 63)), (1, .int a1), (2, .int a2), (3, .int x1)] [] s2) h (fun f3 ih4 x1 s2 h => ?_)
  refine sw_iload_n X 3 rfl rfl dX6_copyTown_2 ?_
  refine sw_sipush X (v := 207) (by decide) dX6_copyTown_3 ?_
  refine sw_icmp_ge X 31 (by decide) dX6_copyTown_6 (fun q5 => ?_) (fun q5 => ?_)
  · have h := ite_T h q5
    exact sw_vret X hr hlk dX6_copyTown_31 h
  · have h := ite_F h q5
    refine sw_aload_n X 0 rfl rfl dX6_copyTown_9 ?_
    refine sw_getR X sw_cl6 (show sw_kd 63 = 6 from rfl) (k := 0) rfl (by decide) (o1 := 64) rfl wf_X6_7 dX6_copyTown_10 ?_
    refine sw_iload_n X 2 rfl rfl dX6_copyTown_13 ?_
    refine sw_iload_n X 3 rfl rfl dX6_copyTown_14 ?_
    refine sw_iadd X dX6_copyTown_15 ?_
    refine sw_aload_n X 0 rfl rfl dX6_copyTown_16 ?_
    refine sw_getR X sw_cl6 (show sw_kd 63 = 6 from rfl) (k := 0) rfl (by decide) (o1 := 64) rfl wf_X6_7 dX6_copyTown_17 ?_
    refine sw_iload_n X 1 rfl rfl dX6_copyTown_20 ?_
    refine sw_iload_n X 3 rfl rfl dX6_copyTown_21 ?_
    refine sw_iadd X dX6_copyTown_22 ?_
    obtain ⟨q6, h⟩ := bnd_E h
    refine sw_iald X (show sw_kd 64 = 8 from rfl) (n := 835) rfl q6 dX6_copyTown_23 ?_
    obtain ⟨q7, h⟩ := bnd_E h
    refine sw_iast X (show sw_kd 64 = 8 from rfl) (n := 835) rfl q7 dX6_copyTown_24 (fun s8 es8 => ?_)
    have h := nm_E h es8
    obtain ⟨x9, ex9⟩ : ∃ y : Int32, y = x1 + 1 := ⟨_, rfl⟩
    have h := nm_E h ex9
    refine sw_iinc X 3 x9 [(3, .int x9), (0, .ref (g.1 63)), (1, .int a1), (2, .int a2)] rfl (by rw [ex9]; rfl) (by decide) rfl dX6_copyTown_25 ?_
    refine sw_goto X 2 (by decide) dX6_copyTown_28 ?_
    refine sw_sub [1, 2, 3, 0] rfl ?_
    exact ih4 _ _ h
theorem dX6_keep_0 : decode cX6_keep 0 = .ok (.iload_n 1, 1) := by decide +kernel
theorem dX6_keep_1 : decode cX6_keep 1 = .ok (.i2l, 1) := by decide +kernel
theorem dX6_keep_2 : decode cX6_keep 2 = .ok (.lconst 0, 1) := by decide +kernel
theorem dX6_keep_3 : decode cX6_keep 3 = .ok (.ldc2_w 179, 3) := by decide +kernel
theorem dX6_keep_6 : decode cX6_keep 6 = .ok (.invokestatic 63, 3) := by decide +kernel
theorem dX6_keep_9 : decode cX6_keep 9 = .ok (.ifCond .ne 5, 3) := by decide +kernel
theorem dX6_keep_12 : decode cX6_keep 12 = .ok (.iconst (-1), 1) := by decide +kernel
theorem dX6_keep_13 : decode cX6_keep 13 = .ok (.ireturn, 1) := by decide +kernel
theorem dX6_keep_14 : decode cX6_keep 14 = .ok (.aload_n 0, 1) := by decide +kernel
theorem dX6_keep_15 : decode cX6_keep 15 = .ok (.getfield 136, 3) := by decide +kernel
theorem dX6_keep_18 : decode cX6_keep 18 = .ok (.ifCond .ne 6, 3) := by decide +kernel
theorem dX6_keep_21 : decode cX6_keep 21 = .ok (.bipush (-4), 2) := by decide +kernel
theorem dX6_keep_23 : decode cX6_keep 23 = .ok (.ireturn, 1) := by decide +kernel
theorem dX6_keep_24 : decode cX6_keep 24 = .ok (.aload_n 0, 1) := by decide +kernel
theorem dX6_keep_25 : decode cX6_keep 25 = .ok (.iconst 0, 1) := by decide +kernel
theorem dX6_keep_26 : decode cX6_keep 26 = .ok (.sipush 207, 3) := by decide +kernel
theorem dX6_keep_29 : decode cX6_keep 29 = .ok (.iconst 1, 1) := by decide +kernel
theorem dX6_keep_30 : decode cX6_keep 30 = .ok (.iload_n 1, 1) := by decide +kernel
theorem dX6_keep_31 : decode cX6_keep 31 = .ok (.iadd, 1) := by decide +kernel
theorem dX6_keep_32 : decode cX6_keep 32 = .ok (.imul, 1) := by decide +kernel
theorem dX6_keep_33 : decode cX6_keep 33 = .ok (.invokevirtual 181, 3) := by decide +kernel
theorem dX6_keep_36 : decode cX6_keep 36 = .ok (.aload_n 0, 1) := by decide +kernel
theorem dX6_keep_37 : decode cX6_keep 37 = .ok (.getfield 7, 3) := by decide +kernel
theorem dX6_keep_40 : decode cX6_keep 40 = .ok (.iconst 0, 1) := by decide +kernel
theorem dX6_keep_41 : decode cX6_keep 41 = .ok (.iaload, 1) := by decide +kernel
theorem dX6_keep_42 : decode cX6_keep 42 = .ok (.ireturn, 1) := by decide +kernel
def j_X6_keep (F : Nat) (a1 : Int32) (st : sw_St) : Option (Int32 × sw_St) :=
bo (j_X6_in F ((a1 : Int32).toInt64) 0 2 st) (fun (r2 : Int32) =>
(if r2 = 0 then (
 some (((-1) : Int32), st))
else (
 (if (st.1 63 1) = 0 then (
  some (((-4) : Int32), st))
 else (
  bd (j_X6_copyTown F 0 (207 * (1 + a1)) st) (fun (_ : Unit) (s6 : sw_St) =>
  some ((s6.1 64 0 : Int32), s6)))))))
set_option maxHeartbeats 4000000 in
set_option maxRecDepth 100000 in
theorem c_X6_keep (F : Nat) (a1 : Int32) (st : sw_St) {r : Int32} {st1 : sw_St} (h : j_X6_keep F a1 st = some (r, st1)) : sw_CI yX6_keep (.code yX6_keep cX6_keep 2 (some .int)) 2 (fun g => [.ref (g.1 63), .int a1]) st r st1 := by
  refine sw_entI RX6 (fun g => [(0, .ref (g.1 63)), (1, .int a1)]) (by decide) rfl (fun _ => Nat.le_of_ble_eq_true rfl) (fun _ => rfl) ?_
  intro p l e s m args below meth c g X hr hlk
  unfold j_X6_keep at h
  refine sw_iload_n X 1 rfl rfl dX6_keep_0 ?_
  refine sw_i2l X dX6_keep_1 ?_
  refine sw_lconst X (v := 0) (by decide) dX6_keep_2 ?_
  refine sw_ldc2 X (v := 2) wl_X6_179 dX6_keep_3 ?_
  obtain ⟨r2, c1, h⟩ := bo_E h
  refine sw_callSI X (As := (fun g => [.long ((a1 : Int32).toInt64), .long 0, .long 2])) ws_X6_in (by omega) (c_X6_in F ((a1 : Int32).toInt64) 0 2 st c1) rfl rfl (Nat.le_of_ble_eq_true rfl) wm_X6_63 dX6_keep_6 ?_
  refine sw_if_ne X 14 (by decide) dX6_keep_9 (fun q3 => ?_) (fun q3 => ?_)
  · have h := ite_F h q3
    refine sw_aload_n X 0 rfl rfl dX6_keep_14 ?_
    refine sw_getI X sw_cl6 (show sw_kd 63 = 6 from rfl) (k := 1) rfl (by decide) wf_X6_136 dX6_keep_15 ?_
    refine sw_if_ne X 24 (by decide) dX6_keep_18 (fun q4 => ?_) (fun q4 => ?_)
    · have h := ite_F h q4
      refine sw_aload_n X 0 rfl rfl dX6_keep_24 ?_
      refine sw_iconst X (v := 0) (by decide) dX6_keep_25 ?_
      refine sw_sipush X (v := 207) (by decide) dX6_keep_26 ?_
      refine sw_iconst X (v := 1) (by decide) dX6_keep_29 ?_
      refine sw_iload_n X 1 rfl rfl dX6_keep_30 ?_
      refine sw_iadd X dX6_keep_31 ?_
      refine sw_imul X dX6_keep_32 ?_
      obtain ⟨u8, s6, c5, h⟩ := bd_E h
      refine sw_callVV X (o := 63) (As := (fun g => [.int 0, .int (207 * (1 + a1))])) sw_cl6 (show sw_kd 63 = 6 from rfl) ws_X6_copyTown (by omega) (c_X6_copyTown F 0 (207 * (1 + a1)) st c5) rfl rfl (Nat.le_of_ble_eq_true rfl) wm_X6_181 dX6_keep_33 ?_
      refine sw_aload_n X 0 rfl rfl dX6_keep_36 ?_
      refine sw_getR X sw_cl6 (show sw_kd 63 = 6 from rfl) (k := 0) rfl (by decide) (o1 := 64) rfl wf_X6_7 dX6_keep_37 ?_
      refine sw_iconst X (v := 0) (by decide) dX6_keep_40 ?_
      refine sw_iald X (show sw_kd 64 = 8 from rfl) (n := 835) rfl (i := 0) (by unfold vp_in; decide) dX6_keep_41 ?_
      exact sw_iret X hr hlk dX6_keep_42 h
    · have h := ite_T h q4
      refine sw_bipush X (v := (-4)) (by decide) dX6_keep_21 ?_
      exact sw_iret X hr hlk dX6_keep_23 h
  · have h := ite_T h q3
    refine sw_iconst X (v := (-1)) (by decide) dX6_keep_12 ?_
    exact sw_iret X hr hlk dX6_keep_13 h
theorem dX6_on_0 : decode cX6_on 0 = .ok (.iload_n 1, 1) := by decide +kernel
theorem dX6_on_1 : decode cX6_on 1 = .ok (.i2l, 1) := by decide +kernel
theorem dX6_on_2 : decode cX6_on 2 = .ok (.lconst 0, 1) := by decide +kernel
theorem dX6_on_3 : decode cX6_on 3 = .ok (.ldc2_w 179, 3) := by decide +kernel
theorem dX6_on_6 : decode cX6_on 6 = .ok (.invokestatic 63, 3) := by decide +kernel
theorem dX6_on_9 : decode cX6_on 9 = .ok (.ifCond .ne 5, 3) := by decide +kernel
theorem dX6_on_12 : decode cX6_on 12 = .ok (.iconst (-1), 1) := by decide +kernel
theorem dX6_on_13 : decode cX6_on 13 = .ok (.ireturn, 1) := by decide +kernel
theorem dX6_on_14 : decode cX6_on 14 = .ok (.aload_n 0, 1) := by decide +kernel
theorem dX6_on_15 : decode cX6_on 15 = .ok (.getfield 7, 3) := by decide +kernel
theorem dX6_on_18 : decode cX6_on 18 = .ok (.sipush 207, 3) := by decide +kernel
theorem dX6_on_21 : decode cX6_on 21 = .ok (.iconst 1, 1) := by decide +kernel
theorem dX6_on_22 : decode cX6_on 22 = .ok (.iload_n 1, 1) := by decide +kernel
theorem dX6_on_23 : decode cX6_on 23 = .ok (.iadd, 1) := by decide +kernel
theorem dX6_on_24 : decode cX6_on 24 = .ok (.imul, 1) := by decide +kernel
theorem dX6_on_25 : decode cX6_on 25 = .ok (.iconst 0, 1) := by decide +kernel
theorem dX6_on_26 : decode cX6_on 26 = .ok (.iadd, 1) := by decide +kernel
theorem dX6_on_27 : decode cX6_on 27 = .ok (.iaload, 1) := by decide +kernel
theorem dX6_on_28 : decode cX6_on 28 = .ok (.ifCond .ge 9, 3) := by decide +kernel
theorem dX6_on_31 : decode cX6_on 31 = .ok (.aload_n 0, 1) := by decide +kernel
theorem dX6_on_32 : decode cX6_on 32 = .ok (.iconst 1, 1) := by decide +kernel
theorem dX6_on_33 : decode cX6_on 33 = .ok (.invokevirtual 73, 3) := by decide +kernel
theorem dX6_on_36 : decode cX6_on 36 = .ok (.ireturn, 1) := by decide +kernel
theorem dX6_on_37 : decode cX6_on 37 = .ok (.aload_n 0, 1) := by decide +kernel
theorem dX6_on_38 : decode cX6_on 38 = .ok (.sipush 207, 3) := by decide +kernel
theorem dX6_on_41 : decode cX6_on 41 = .ok (.iconst 1, 1) := by decide +kernel
theorem dX6_on_42 : decode cX6_on 42 = .ok (.iload_n 1, 1) := by decide +kernel
theorem dX6_on_43 : decode cX6_on 43 = .ok (.iadd, 1) := by decide +kernel
theorem dX6_on_44 : decode cX6_on 44 = .ok (.imul, 1) := by decide +kernel
theorem dX6_on_45 : decode cX6_on 45 = .ok (.iconst 0, 1) := by decide +kernel
theorem dX6_on_46 : decode cX6_on 46 = .ok (.invokevirtual 181, 3) := by decide +kernel
theorem dX6_on_49 : decode cX6_on 49 = .ok (.aload_n 0, 1) := by decide +kernel
theorem dX6_on_50 : decode cX6_on 50 = .ok (.getfield 7, 3) := by decide +kernel
theorem dX6_on_53 : decode cX6_on 53 = .ok (.iconst 0, 1) := by decide +kernel
theorem dX6_on_54 : decode cX6_on 54 = .ok (.iaload, 1) := by decide +kernel
theorem dX6_on_55 : decode cX6_on 55 = .ok (.ireturn, 1) := by decide +kernel
def j_X6_on (F : Nat) (a1 : Int32) (st : sw_St) : Option (Int32 × sw_St) :=
bo (j_X6_in F ((a1 : Int32).toInt64) 0 2 st) (fun (r2 : Int32) =>
(if r2 = 0 then (
 some (((-1) : Int32), st))
else (
 bnd ((207 * (1 + a1)) + 0) 835 (
 (if 0 ≤ (st.1 64 (((207 * (1 + a1)) + 0) : Int32).toNatClampNeg) then (
  bd (j_X6_copyTown F (207 * (1 + a1)) 0 st) (fun (_ : Unit) (s7 : sw_St) =>
  some ((s7.1 64 0 : Int32), s7)))
 else (
  bd (j_X6_find F 1 st) (fun (r11 : Int32) (s12 : sw_St) =>
  some ((r11 : Int32), s12))))))))
set_option maxHeartbeats 4000000 in
set_option maxRecDepth 100000 in
theorem c_X6_on (F : Nat) (a1 : Int32) (st : sw_St) {r : Int32} {st1 : sw_St} (h : j_X6_on F a1 st = some (r, st1)) : sw_CI yX6_on (.code yX6_on cX6_on 2 (some .int)) 2 (fun g => [.ref (g.1 63), .int a1]) st r st1 := by
  refine sw_entI RX6 (fun g => [(0, .ref (g.1 63)), (1, .int a1)]) (by decide) rfl (fun _ => Nat.le_of_ble_eq_true rfl) (fun _ => rfl) ?_
  intro p l e s m args below meth c g X hr hlk
  unfold j_X6_on at h
  refine sw_iload_n X 1 rfl rfl dX6_on_0 ?_
  refine sw_i2l X dX6_on_1 ?_
  refine sw_lconst X (v := 0) (by decide) dX6_on_2 ?_
  refine sw_ldc2 X (v := 2) wl_X6_179 dX6_on_3 ?_
  obtain ⟨r2, c1, h⟩ := bo_E h
  refine sw_callSI X (As := (fun g => [.long ((a1 : Int32).toInt64), .long 0, .long 2])) ws_X6_in (by omega) (c_X6_in F ((a1 : Int32).toInt64) 0 2 st c1) rfl rfl (Nat.le_of_ble_eq_true rfl) wm_X6_63 dX6_on_6 ?_
  refine sw_if_ne X 14 (by decide) dX6_on_9 (fun q3 => ?_) (fun q3 => ?_)
  · have h := ite_F h q3
    refine sw_aload_n X 0 rfl rfl dX6_on_14 ?_
    refine sw_getR X sw_cl6 (show sw_kd 63 = 6 from rfl) (k := 0) rfl (by decide) (o1 := 64) rfl wf_X6_7 dX6_on_15 ?_
    refine sw_sipush X (v := 207) (by decide) dX6_on_18 ?_
    refine sw_iconst X (v := 1) (by decide) dX6_on_21 ?_
    refine sw_iload_n X 1 rfl rfl dX6_on_22 ?_
    refine sw_iadd X dX6_on_23 ?_
    refine sw_imul X dX6_on_24 ?_
    refine sw_iconst X (v := 0) (by decide) dX6_on_25 ?_
    refine sw_iadd X dX6_on_26 ?_
    obtain ⟨q4, h⟩ := bnd_E h
    refine sw_iald X (show sw_kd 64 = 8 from rfl) (n := 835) rfl q4 dX6_on_27 ?_
    refine sw_if_ge X 37 (by decide) dX6_on_28 (fun q5 => ?_) (fun q5 => ?_)
    · have h := ite_T h q5
      refine sw_aload_n X 0 rfl rfl dX6_on_37 ?_
      refine sw_sipush X (v := 207) (by decide) dX6_on_38 ?_
      refine sw_iconst X (v := 1) (by decide) dX6_on_41 ?_
      refine sw_iload_n X 1 rfl rfl dX6_on_42 ?_
      refine sw_iadd X dX6_on_43 ?_
      refine sw_imul X dX6_on_44 ?_
      refine sw_iconst X (v := 0) (by decide) dX6_on_45 ?_
      obtain ⟨u9, s7, c6, h⟩ := bd_E h
      refine sw_callVV X (o := 63) (As := (fun g => [.int (207 * (1 + a1)), .int 0])) sw_cl6 (show sw_kd 63 = 6 from rfl) ws_X6_copyTown (by omega) (c_X6_copyTown F (207 * (1 + a1)) 0 st c6) rfl rfl (Nat.le_of_ble_eq_true rfl) wm_X6_181 dX6_on_46 ?_
      refine sw_aload_n X 0 rfl rfl dX6_on_49 ?_
      refine sw_getR X sw_cl6 (show sw_kd 63 = 6 from rfl) (k := 0) rfl (by decide) (o1 := 64) rfl wf_X6_7 dX6_on_50 ?_
      refine sw_iconst X (v := 0) (by decide) dX6_on_53 ?_
      refine sw_iald X (show sw_kd 64 = 8 from rfl) (n := 835) rfl (i := 0) (by unfold vp_in; decide) dX6_on_54 ?_
      exact sw_iret X hr hlk dX6_on_55 h
    · have h := ite_F h q5
      refine sw_aload_n X 0 rfl rfl dX6_on_31 ?_
      refine sw_iconst X (v := 1) (by decide) dX6_on_32 ?_
      obtain ⟨r11, s12, c10, h⟩ := bd_E h
      refine sw_callVI X (o := 63) (As := (fun g => [.int 1])) sw_cl6 (show sw_kd 63 = 6 from rfl) ws_X6_find (by omega) (c_X6_find F 1 st c10) rfl rfl (Nat.le_of_ble_eq_true rfl) wm_X6_73 dX6_on_33 ?_
      exact sw_iret X hr hlk dX6_on_36 h
  · have h := ite_T h q3
    refine sw_iconst X (v := (-1)) (by decide) dX6_on_12 ?_
    exact sw_iret X hr hlk dX6_on_13 h
theorem dX6_lastsTried_0 : decode cX6_lastsTried 0 = .ok (.iconst 0, 1) := by decide +kernel
theorem dX6_lastsTried_1 : decode cX6_lastsTried 1 = .ok (.istore_n 1, 1) := by decide +kernel
theorem dX6_lastsTried_2 : decode cX6_lastsTried 2 = .ok (.aload_n 0, 1) := by decide +kernel
theorem dX6_lastsTried_3 : decode cX6_lastsTried 3 = .ok (.iconst 0, 1) := by decide +kernel
theorem dX6_lastsTried_4 : decode cX6_lastsTried 4 = .ok (.putfield 184, 3) := by decide +kernel
theorem dX6_lastsTried_7 : decode cX6_lastsTried 7 = .ok (.aload_n 0, 1) := by decide +kernel
theorem dX6_lastsTried_8 : decode cX6_lastsTried 8 = .ok (.getfield 7, 3) := by decide +kernel
theorem dX6_lastsTried_11 : decode cX6_lastsTried 11 = .ok (.sipush 829, 3) := by decide +kernel
theorem dX6_lastsTried_14 : decode cX6_lastsTried 14 = .ok (.iaload, 1) := by decide +kernel
theorem dX6_lastsTried_15 : decode cX6_lastsTried 15 = .ok (.ifCond .le 20, 3) := by decide +kernel
theorem dX6_lastsTried_18 : decode cX6_lastsTried 18 = .ok (.aload_n 0, 1) := by decide +kernel
theorem dX6_lastsTried_19 : decode cX6_lastsTried 19 = .ok (.aload_n 0, 1) := by decide +kernel
theorem dX6_lastsTried_20 : decode cX6_lastsTried 20 = .ok (.sipush 828, 3) := by decide +kernel
theorem dX6_lastsTried_23 : decode cX6_lastsTried 23 = .ok (.invokevirtual 176, 3) := by decide +kernel
theorem dX6_lastsTried_26 : decode cX6_lastsTried 26 = .ok (.putfield 184, 3) := by decide +kernel
theorem dX6_lastsTried_29 : decode cX6_lastsTried 29 = .ok (.iinc 1 1, 3) := by decide +kernel
theorem dX6_lastsTried_32 : decode cX6_lastsTried 32 = .ok (.goto (-25), 3) := by decide +kernel
theorem dX6_lastsTried_35 : decode cX6_lastsTried 35 = .ok (.iload_n 1, 1) := by decide +kernel
theorem dX6_lastsTried_36 : decode cX6_lastsTried 36 = .ok (.ireturn, 1) := by decide +kernel
def j_X6_lastsTried (F : Nat) (st : sw_St) : Option (Int32 × sw_St) :=
nm (sw_setC st 63 21 0) (fun (s1 : sw_St) =>
lz2 (fun f4 (x2 : Int32) (s3 : sw_St) =>
 (if (s3.1 64 829) ≤ 0 then (
  some ((x2 : Int32), s3))
 else (
  bd (j_X6_pass F 828 s3) (fun (r9 : Int32) (s10 : sw_St) =>
  nm (sw_setC s10 63 21 r9) (fun (s11 : sw_St) =>
  nm (x2 + 1) (fun (x12 : Int32) =>
  f4 x12 s11)))))) F 0 s1)
set_option maxHeartbeats 4000000 in
set_option maxRecDepth 100000 in
theorem c_X6_lastsTried (F : Nat) (st : sw_St) {r : Int32} {st1 : sw_St} (h : j_X6_lastsTried F  st = some (r, st1)) : sw_CI yX6_lastsTried (.code yX6_lastsTried cX6_lastsTried 2 (some .int)) 2 (fun g => [.ref (g.1 63)]) st r st1 := by
  refine sw_entI RX6 (fun g => [(0, .ref (g.1 63))]) (by decide) rfl (fun _ => Nat.le_of_ble_eq_true rfl) (fun _ => rfl) ?_
  intro p l e s m args below meth c g X hr hlk
  unfold j_X6_lastsTried at h
  refine sw_iconst X (v := 0) (by decide) dX6_lastsTried_0 ?_
  refine sw_istore_n X [(1, .int 0), (0, .ref (g.1 63))] rfl (by decide) rfl dX6_lastsTried_1 ?_
  refine sw_aload_n X 1 rfl rfl dX6_lastsTried_2 ?_
  refine sw_iconst X (v := 0) (by decide) dX6_lastsTried_3 ?_
  refine sw_putI X sw_cl6 (show sw_kd 63 = 6 from rfl) (k := 21) rfl (by decide) rfl rfl wf_X6_184 dX6_lastsTried_4 (fun s1 es1 => ?_)
  have h := nm_E h es1
  refine sw_sub [1, 0] rfl ?_
  refine lz2_E (fun (x2 : Int32) (s3 : sw_St) => sw_V p l e 2 s m args below meth c g (sw_A g s.heap.size) (sw_QI below g args s r st1) 2 7 [(0, .ref (g.1 63)), (1, .int x2)] [] s3) h (fun f4 ih5 x2 s3 h => ?_)
  refine sw_aload_n X 0 rfl rfl dX6_lastsTried_7 ?_
  refine sw_getR X sw_cl6 (show sw_kd 63 = 6 from rfl) (k := 0) rfl (by decide) (o1 := 64) rfl wf_X6_7 dX6_lastsTried_8 ?_
  refine sw_sipush X (v := 829) (by decide) dX6_lastsTried_11 ?_
  refine sw_iald X (show sw_kd 64 = 8 from rfl) (n := 835) rfl (i := 829) (by unfold vp_in; decide) dX6_lastsTried_14 ?_
  refine sw_if_le X 35 (by decide) dX6_lastsTried_15 (fun q7 => ?_) (fun q7 => ?_)
  · have h := ite_T h q7
    refine sw_iload_n X 1 rfl rfl dX6_lastsTried_35 ?_
    exact sw_iret X hr hlk dX6_lastsTried_36 h
  · have h := ite_F h q7
    refine sw_aload_n X 0 rfl rfl dX6_lastsTried_18 ?_
    refine sw_aload_n X 0 rfl rfl dX6_lastsTried_19 ?_
    refine sw_sipush X (v := 828) (by decide) dX6_lastsTried_20 ?_
    obtain ⟨r9, s10, c8, h⟩ := bd_E h
    refine sw_callVI X (o := 63) (As := (fun g => [.int 828])) sw_cl6 (show sw_kd 63 = 6 from rfl) ws_X6_pass (by omega) (c_X6_pass F 828 s3 c8) rfl rfl (Nat.le_of_ble_eq_true rfl) wm_X6_176 dX6_lastsTried_23 ?_
    refine sw_putI X sw_cl6 (show sw_kd 63 = 6 from rfl) (k := 21) rfl (by decide) rfl rfl wf_X6_184 dX6_lastsTried_26 (fun s11 es11 => ?_)
    have h := nm_E h es11
    obtain ⟨x12, ex12⟩ : ∃ y : Int32, y = x2 + 1 := ⟨_, rfl⟩
    have h := nm_E h ex12
    refine sw_iinc X 1 x12 [(1, .int x12), (0, .ref (g.1 63))] rfl (by rw [ex12]; rfl) (by decide) rfl dX6_lastsTried_29 ?_
    refine sw_goto X 7 (by decide) dX6_lastsTried_32 ?_
    refine sw_sub [1, 0] rfl ?_
    exact ih5 _ _ h
theorem dX6_lasts_0 : decode cX6_lasts 0 = .ok (.aload_n 0, 1) := by decide +kernel
theorem dX6_lasts_1 : decode cX6_lasts 1 = .ok (.getfield 136, 3) := by decide +kernel
theorem dX6_lasts_4 : decode cX6_lasts 4 = .ok (.ifCond .ne 6, 3) := by decide +kernel
theorem dX6_lasts_7 : decode cX6_lasts 7 = .ok (.bipush (-4), 2) := by decide +kernel
theorem dX6_lasts_9 : decode cX6_lasts 9 = .ok (.ireturn, 1) := by decide +kernel
theorem dX6_lasts_10 : decode cX6_lasts 10 = .ok (.aload_n 0, 1) := by decide +kernel
theorem dX6_lasts_11 : decode cX6_lasts 11 = .ok (.invokevirtual 187, 3) := by decide +kernel
theorem dX6_lasts_14 : decode cX6_lasts 14 = .ok (.aload_n 0, 1) := by decide +kernel
theorem dX6_lasts_15 : decode cX6_lasts 15 = .ok (.invokevirtual 190, 3) := by decide +kernel
theorem dX6_lasts_18 : decode cX6_lasts 18 = .ok (.istore_n 1, 1) := by decide +kernel
theorem dX6_lasts_19 : decode cX6_lasts 19 = .ok (.aload_n 0, 1) := by decide +kernel
theorem dX6_lasts_20 : decode cX6_lasts 20 = .ok (.aload_n 0, 1) := by decide +kernel
theorem dX6_lasts_21 : decode cX6_lasts 21 = .ok (.getfield 184, 3) := by decide +kernel
theorem dX6_lasts_24 : decode cX6_lasts 24 = .ok (.putfield 58, 3) := by decide +kernel
theorem dX6_lasts_27 : decode cX6_lasts 27 = .ok (.iload_n 1, 1) := by decide +kernel
theorem dX6_lasts_28 : decode cX6_lasts 28 = .ok (.ireturn, 1) := by decide +kernel
def j_X6_lasts (F : Nat) (st : sw_St) : Option (Int32 × sw_St) :=
(if (st.1 63 1) = 0 then (
 some (((-4) : Int32), st))
else (
 bd (j_X6_layTried F st) (fun (_ : Unit) (s3 : sw_St) =>
 bd (j_X6_lastsTried F s3) (fun (r5 : Int32) (s6 : sw_St) =>
 nm (sw_setC s6 63 9 (s6.1 63 21)) (fun (s7 : sw_St) =>
 some ((r5 : Int32), s7))))))
set_option maxHeartbeats 4000000 in
set_option maxRecDepth 100000 in
theorem c_X6_lasts (F : Nat) (st : sw_St) {r : Int32} {st1 : sw_St} (h : j_X6_lasts F  st = some (r, st1)) : sw_CI yX6_lasts (.code yX6_lasts cX6_lasts 2 (some .int)) 3 (fun g => [.ref (g.1 63)]) st r st1 := by
  refine sw_entI RX6 (fun g => [(0, .ref (g.1 63))]) (by decide) rfl (fun _ => Nat.le_of_ble_eq_true rfl) (fun _ => rfl) ?_
  intro p l e s m args below meth c g X hr hlk
  unfold j_X6_lasts at h
  refine sw_aload_n X 0 rfl rfl dX6_lasts_0 ?_
  refine sw_getI X sw_cl6 (show sw_kd 63 = 6 from rfl) (k := 1) rfl (by decide) wf_X6_136 dX6_lasts_1 ?_
  refine sw_if_ne X 10 (by decide) dX6_lasts_4 (fun q1 => ?_) (fun q1 => ?_)
  · have h := ite_F h q1
    refine sw_aload_n X 0 rfl rfl dX6_lasts_10 ?_
    obtain ⟨u8, s3, c2, h⟩ := bd_E h
    refine sw_callVV X (o := 63) (As := (fun g => [])) sw_cl6 (show sw_kd 63 = 6 from rfl) ws_X6_layTried (by omega) (c_X6_layTried F st c2) rfl rfl (Nat.le_of_ble_eq_true rfl) wm_X6_187 dX6_lasts_11 ?_
    refine sw_aload_n X 0 rfl rfl dX6_lasts_14 ?_
    obtain ⟨r5, s6, c4, h⟩ := bd_E h
    refine sw_callVI X (o := 63) (As := (fun g => [])) sw_cl6 (show sw_kd 63 = 6 from rfl) ws_X6_lastsTried (by omega) (c_X6_lastsTried F s3 c4) rfl rfl (Nat.le_of_ble_eq_true rfl) wm_X6_190 dX6_lasts_15 ?_
    refine sw_istore_n X [(1, .int r5), (0, .ref (g.1 63))] rfl (by decide) rfl dX6_lasts_18 ?_
    refine sw_aload_n X 1 rfl rfl dX6_lasts_19 ?_
    refine sw_aload_n X 1 rfl rfl dX6_lasts_20 ?_
    refine sw_getI X sw_cl6 (show sw_kd 63 = 6 from rfl) (k := 21) rfl (by decide) wf_X6_184 dX6_lasts_21 ?_
    refine sw_putI X sw_cl6 (show sw_kd 63 = 6 from rfl) (k := 9) rfl (by decide) rfl rfl wf_X6_58 dX6_lasts_24 (fun s7 es7 => ?_)
    have h := nm_E h es7
    refine sw_iload_n X 0 rfl rfl dX6_lasts_27 ?_
    exact sw_iret X hr hlk dX6_lasts_28 h
  · have h := ite_T h q1
    refine sw_bipush X (v := (-4)) (by decide) dX6_lasts_7 ?_
    exact sw_iret X hr hlk dX6_lasts_9 h
theorem dX6_noRow_0 : decode cX6_noRow 0 = .ok (.aload_n 0, 1) := by decide +kernel
theorem dX6_noRow_1 : decode cX6_noRow 1 = .ok (.getfield 136, 3) := by decide +kernel
theorem dX6_noRow_4 : decode cX6_noRow 4 = .ok (.ifCond .ne 6, 3) := by decide +kernel
theorem dX6_noRow_7 : decode cX6_noRow 7 = .ok (.bipush (-4), 2) := by decide +kernel
theorem dX6_noRow_9 : decode cX6_noRow 9 = .ok (.ireturn, 1) := by decide +kernel
theorem dX6_noRow_10 : decode cX6_noRow 10 = .ok (.aload_n 0, 1) := by decide +kernel
theorem dX6_noRow_11 : decode cX6_noRow 11 = .ok (.getfield 22, 3) := by decide +kernel
theorem dX6_noRow_14 : decode cX6_noRow 14 = .ok (.iload_n 1, 1) := by decide +kernel
theorem dX6_noRow_15 : decode cX6_noRow 15 = .ok (.iaload, 1) := by decide +kernel
theorem dX6_noRow_16 : decode cX6_noRow 16 = .ok (.ifCond .ge 9, 3) := by decide +kernel
theorem dX6_noRow_19 : decode cX6_noRow 19 = .ok (.aload_n 0, 1) := by decide +kernel
theorem dX6_noRow_20 : decode cX6_noRow 20 = .ok (.iconst 1, 1) := by decide +kernel
theorem dX6_noRow_21 : decode cX6_noRow 21 = .ok (.invokevirtual 73, 3) := by decide +kernel
theorem dX6_noRow_24 : decode cX6_noRow 24 = .ok (.ireturn, 1) := by decide +kernel
theorem dX6_noRow_25 : decode cX6_noRow 25 = .ok (.aload_n 0, 1) := by decide +kernel
theorem dX6_noRow_26 : decode cX6_noRow 26 = .ok (.getfield 22, 3) := by decide +kernel
theorem dX6_noRow_29 : decode cX6_noRow 29 = .ok (.iload_n 1, 1) := by decide +kernel
theorem dX6_noRow_30 : decode cX6_noRow 30 = .ok (.iaload, 1) := by decide +kernel
theorem dX6_noRow_31 : decode cX6_noRow 31 = .ok (.iload_n 2, 1) := by decide +kernel
theorem dX6_noRow_32 : decode cX6_noRow 32 = .ok (.if_icmp .le 9, 3) := by decide +kernel
theorem dX6_noRow_35 : decode cX6_noRow 35 = .ok (.aload_n 0, 1) := by decide +kernel
theorem dX6_noRow_36 : decode cX6_noRow 36 = .ok (.iconst 5, 1) := by decide +kernel
theorem dX6_noRow_37 : decode cX6_noRow 37 = .ok (.invokevirtual 73, 3) := by decide +kernel
theorem dX6_noRow_40 : decode cX6_noRow 40 = .ok (.ireturn, 1) := by decide +kernel
theorem dX6_noRow_41 : decode cX6_noRow 41 = .ok (.aload_n 0, 1) := by decide +kernel
theorem dX6_noRow_42 : decode cX6_noRow 42 = .ok (.getfield 7, 3) := by decide +kernel
theorem dX6_noRow_45 : decode cX6_noRow 45 = .ok (.iconst 5, 1) := by decide +kernel
theorem dX6_noRow_46 : decode cX6_noRow 46 = .ok (.iaload, 1) := by decide +kernel
theorem dX6_noRow_47 : decode cX6_noRow 47 = .ok (.istore 4, 2) := by decide +kernel
theorem dX6_noRow_49 : decode cX6_noRow 49 = .ok (.bipush 40, 2) := by decide +kernel
theorem dX6_noRow_51 : decode cX6_noRow 51 = .ok (.iload_n 1, 1) := by decide +kernel
theorem dX6_noRow_52 : decode cX6_noRow 52 = .ok (.imul, 1) := by decide +kernel
theorem dX6_noRow_53 : decode cX6_noRow 53 = .ok (.istore 5, 2) := by decide +kernel
theorem dX6_noRow_55 : decode cX6_noRow 55 = .ok (.iload 5, 2) := by decide +kernel
theorem dX6_noRow_57 : decode cX6_noRow 57 = .ok (.bipush 40, 2) := by decide +kernel
theorem dX6_noRow_59 : decode cX6_noRow 59 = .ok (.iload_n 1, 1) := by decide +kernel
theorem dX6_noRow_60 : decode cX6_noRow 60 = .ok (.imul, 1) := by decide +kernel
theorem dX6_noRow_61 : decode cX6_noRow 61 = .ok (.aload_n 0, 1) := by decide +kernel
theorem dX6_noRow_62 : decode cX6_noRow 62 = .ok (.getfield 22, 3) := by decide +kernel
theorem dX6_noRow_65 : decode cX6_noRow 65 = .ok (.iload_n 1, 1) := by decide +kernel
theorem dX6_noRow_66 : decode cX6_noRow 66 = .ok (.iaload, 1) := by decide +kernel
theorem dX6_noRow_67 : decode cX6_noRow 67 = .ok (.iadd, 1) := by decide +kernel
theorem dX6_noRow_68 : decode cX6_noRow 68 = .ok (.if_icmp .ge 74, 3) := by decide +kernel
theorem dX6_noRow_71 : decode cX6_noRow 71 = .ok (.iload_n 3, 1) := by decide +kernel
theorem dX6_noRow_72 : decode cX6_noRow 72 = .ok (.ifCond .eq 15, 3) := by decide +kernel
theorem dX6_noRow_75 : decode cX6_noRow 75 = .ok (.aload_n 0, 1) := by decide +kernel
theorem dX6_noRow_76 : decode cX6_noRow 76 = .ok (.getfield 25, 3) := by decide +kernel
theorem dX6_noRow_79 : decode cX6_noRow 79 = .ok (.iload 5, 2) := by decide +kernel
theorem dX6_noRow_81 : decode cX6_noRow 81 = .ok (.iaload, 1) := by decide +kernel
theorem dX6_noRow_82 : decode cX6_noRow 82 = .ok (.bipush (-9), 2) := by decide +kernel
theorem dX6_noRow_84 : decode cX6_noRow 84 = .ok (.if_icmp .eq 52, 3) := by decide +kernel
theorem dX6_noRow_87 : decode cX6_noRow 87 = .ok (.aload_n 0, 1) := by decide +kernel
theorem dX6_noRow_88 : decode cX6_noRow 88 = .ok (.aload_n 0, 1) := by decide +kernel
theorem dX6_noRow_89 : decode cX6_noRow 89 = .ok (.getfield 25, 3) := by decide +kernel
theorem dX6_noRow_92 : decode cX6_noRow 92 = .ok (.iload 5, 2) := by decide +kernel
theorem dX6_noRow_94 : decode cX6_noRow 94 = .ok (.iaload, 1) := by decide +kernel
theorem dX6_noRow_95 : decode cX6_noRow 95 = .ok (.invokevirtual 155, 3) := by decide +kernel
theorem dX6_noRow_98 : decode cX6_noRow 98 = .ok (.ifCond .eq 18, 3) := by decide +kernel
theorem dX6_noRow_101 : decode cX6_noRow 101 = .ok (.iload 4, 2) := by decide +kernel
theorem dX6_noRow_103 : decode cX6_noRow 103 = .ok (.aload_n 0, 1) := by decide +kernel
theorem dX6_noRow_104 : decode cX6_noRow 104 = .ok (.getfield 25, 3) := by decide +kernel
theorem dX6_noRow_107 : decode cX6_noRow 107 = .ok (.iload 5, 2) := by decide +kernel
theorem dX6_noRow_109 : decode cX6_noRow 109 = .ok (.iaload, 1) := by decide +kernel
theorem dX6_noRow_110 : decode cX6_noRow 110 = .ok (.invokestatic 139, 3) := by decide +kernel
theorem dX6_noRow_113 : decode cX6_noRow 113 = .ok (.ifCond .eq 9, 3) := by decide +kernel
theorem dX6_noRow_116 : decode cX6_noRow 116 = .ok (.aload_n 0, 1) := by decide +kernel
theorem dX6_noRow_117 : decode cX6_noRow 117 = .ok (.iconst 3, 1) := by decide +kernel
theorem dX6_noRow_118 : decode cX6_noRow 118 = .ok (.invokevirtual 73, 3) := by decide +kernel
theorem dX6_noRow_121 : decode cX6_noRow 121 = .ok (.ireturn, 1) := by decide +kernel
theorem dX6_noRow_122 : decode cX6_noRow 122 = .ok (.iload 4, 2) := by decide +kernel
theorem dX6_noRow_124 : decode cX6_noRow 124 = .ok (.iconst 1, 1) := by decide +kernel
theorem dX6_noRow_125 : decode cX6_noRow 125 = .ok (.aload_n 0, 1) := by decide +kernel
theorem dX6_noRow_126 : decode cX6_noRow 126 = .ok (.getfield 25, 3) := by decide +kernel
theorem dX6_noRow_129 : decode cX6_noRow 129 = .ok (.iload 5, 2) := by decide +kernel
theorem dX6_noRow_131 : decode cX6_noRow 131 = .ok (.iaload, 1) := by decide +kernel
theorem dX6_noRow_132 : decode cX6_noRow 132 = .ok (.ishl, 1) := by decide +kernel
theorem dX6_noRow_133 : decode cX6_noRow 133 = .ok (.ior, 1) := by decide +kernel
theorem dX6_noRow_134 : decode cX6_noRow 134 = .ok (.istore 4, 2) := by decide +kernel
theorem dX6_noRow_136 : decode cX6_noRow 136 = .ok (.iinc 5 1, 3) := by decide +kernel
theorem dX6_noRow_139 : decode cX6_noRow 139 = .ok (.goto (-84), 3) := by decide +kernel
theorem dX6_noRow_142 : decode cX6_noRow 142 = .ok (.iconst 0, 1) := by decide +kernel
theorem dX6_noRow_143 : decode cX6_noRow 143 = .ok (.ireturn, 1) := by decide +kernel
def j_X6_noRow (F : Nat) (a1 : Int32) (a2 : Int32) (a3 : Int32) (st : sw_St) : Option (Int32 × sw_St) :=
(if (st.1 63 1) = 0 then (
 some (((-4) : Int32), st))
else (
 bnd a1 6 (
 (if 0 ≤ (st.1 68 (a1 : Int32).toNatClampNeg) then (
  bnd a1 6 (
  (if (st.1 68 (a1 : Int32).toNatClampNeg) ≤ a2 then (
   nm (st.1 64 5) (fun (x7 : Int32) =>
   nm (40 * a1) (fun (x8 : Int32) =>
   lz2 (fun f11 (x9 : Int32) (x10 : Int32) =>
    bnd a1 6 (
    (if ((40 * a1) + (st.1 68 (a1 : Int32).toNatClampNeg)) ≤ x10 then (
     some ((0 : Int32), st))
    else (
     jn (fun (x15 : Int32) => 
       nm (x10 + 1) (fun (x18 : Int32) =>
       f11 x15 x18)) (fun k16 =>
      jn (
        bnd x10 240 (
        bo (j_X6_isStranger F (st.1 69 (x10 : Int32).toNatClampNeg) st) (fun (r23 : Int32) =>
        jn (
          bd (j_X6_find F 3 st) (fun (r27 : Int32) (s28 : sw_St) =>
          some ((r27 : Int32), s28))) (fun k24 =>
         (if r23 = 0 then (
          k24)
         else (
          bnd x10 240 (
          bo (j_X6_has F x9 (st.1 69 (x10 : Int32).toNatClampNeg) st) (fun (r32 : Int32) =>
          (if r32 = 0 then (
           bnd x10 240 (
           nm (x9 ||| (1 <<< ((st.1 69 (x10 : Int32).toNatClampNeg) &&& 31))) (fun (x35 : Int32) =>
           k16 x35)))
          else (
           k24)))))))))) (fun k19 =>
       (if a3 = 0 then (
        k19)
       else (
        bnd x10 240 (
        (if (st.1 69 (x10 : Int32).toNatClampNeg) = (-9) then (
         k16 x9)
        else (
         k19))))))))))) F x7 x8)))
  else (
   bd (j_X6_find F 5 st) (fun (r40 : Int32) (s41 : sw_St) =>
   some ((r40 : Int32), s41))))))
 else (
  bd (j_X6_find F 1 st) (fun (r43 : Int32) (s44 : sw_St) =>
  some ((r43 : Int32), s44)))))))
set_option maxHeartbeats 4000000 in
set_option maxRecDepth 100000 in
theorem c_X6_noRow (F : Nat) (a1 : Int32) (a2 : Int32) (a3 : Int32) (st : sw_St) {r : Int32} {st1 : sw_St} (h : j_X6_noRow F a1 a2 a3 st = some (r, st1)) : sw_CI yX6_noRow (.code yX6_noRow cX6_noRow 6 (some .int)) 3 (fun g => [.ref (g.1 63), .int a1, .int a2, .int a3]) st r st1 := by
  refine sw_entI RX6 (fun g => [(0, .ref (g.1 63)), (1, .int a1), (2, .int a2), (3, .int a3)]) (by decide) rfl (fun _ => Nat.le_of_ble_eq_true rfl) (fun _ => rfl) ?_
  intro p l e s m args below meth c g X hr hlk
  unfold j_X6_noRow at h
  refine sw_aload_n X 0 rfl rfl dX6_noRow_0 ?_
  refine sw_getI X sw_cl6 (show sw_kd 63 = 6 from rfl) (k := 1) rfl (by decide) wf_X6_136 dX6_noRow_1 ?_
  refine sw_if_ne X 10 (by decide) dX6_noRow_4 (fun q1 => ?_) (fun q1 => ?_)
  · have h := ite_F h q1
    refine sw_aload_n X 0 rfl rfl dX6_noRow_10 ?_
    refine sw_getR X sw_cl6 (show sw_kd 63 = 6 from rfl) (k := 5) rfl (by decide) (o1 := 68) rfl wf_X6_22 dX6_noRow_11 ?_
    refine sw_iload_n X 1 rfl rfl dX6_noRow_14 ?_
    obtain ⟨q2, h⟩ := bnd_E h
    refine sw_iald X (show sw_kd 68 = 8 from rfl) (n := 6) rfl q2 dX6_noRow_15 ?_
    refine sw_if_ge X 25 (by decide) dX6_noRow_16 (fun q3 => ?_) (fun q3 => ?_)
    · have h := ite_T h q3
      refine sw_aload_n X 0 rfl rfl dX6_noRow_25 ?_
      refine sw_getR X sw_cl6 (show sw_kd 63 = 6 from rfl) (k := 5) rfl (by decide) (o1 := 68) rfl wf_X6_22 dX6_noRow_26 ?_
      refine sw_iload_n X 1 rfl rfl dX6_noRow_29 ?_
      obtain ⟨q4, h⟩ := bnd_E h
      refine sw_iald X (show sw_kd 68 = 8 from rfl) (n := 6) rfl q4 dX6_noRow_30 ?_
      refine sw_iload_n X 2 rfl rfl dX6_noRow_31 ?_
      refine sw_icmp_le X 41 (by decide) dX6_noRow_32 (fun q5 => ?_) (fun q5 => ?_)
      · have h := ite_T h q5
        refine sw_aload_n X 0 rfl rfl dX6_noRow_41 ?_
        refine sw_getR X sw_cl6 (show sw_kd 63 = 6 from rfl) (k := 0) rfl (by decide) (o1 := 64) rfl wf_X6_7 dX6_noRow_42 ?_
        refine sw_iconst X (v := 5) (by decide) dX6_noRow_45 ?_
        refine sw_iald X (show sw_kd 64 = 8 from rfl) (n := 835) rfl (i := 5) (by unfold vp_in; decide) dX6_noRow_46 ?_
        refine sw_topi (fun x7 ex7 => ?_)
        have h := nm_E h ex7
        refine sw_istore X [(4, .int x7), (0, .ref (g.1 63)), (1, .int a1), (2, .int a2), (3, .int a3)] (by decide) rfl dX6_noRow_47 ?_
        refine sw_bipush X (v := 40) (by decide) dX6_noRow_49 ?_
        refine sw_iload_n X 2 rfl rfl dX6_noRow_51 ?_
        refine sw_imul X dX6_noRow_52 ?_
        refine sw_topi (fun x8 ex8 => ?_)
        have h := nm_E h ex8
        refine sw_istore X [(5, .int x8), (4, .int x7), (0, .ref (g.1 63)), (1, .int a1), (2, .int a2), (3, .int a3)] (by decide) rfl dX6_noRow_53 ?_
        refine sw_sub [2, 3, 5, 1, 0] rfl ?_
        refine lz2_E (fun (x9 : Int32) (x10 : Int32) => sw_V p l e 3 s m args below meth c g (sw_A g s.heap.size) (sw_QI below g args s r st1) 6 55 [(0, .ref (g.1 63)), (1, .int a1), (3, .int a3), (4, .int x9), (5, .int x10)] [] st) h (fun f11 ih12 x9 x10 h => ?_)
        refine sw_iload X 4 rfl dX6_noRow_55 ?_
        refine sw_bipush X (v := 40) (by decide) dX6_noRow_57 ?_
        refine sw_iload_n X 1 rfl rfl dX6_noRow_59 ?_
        refine sw_imul X dX6_noRow_60 ?_
        refine sw_aload_n X 0 rfl rfl dX6_noRow_61 ?_
        refine sw_getR X sw_cl6 (show sw_kd 63 = 6 from rfl) (k := 5) rfl (by decide) (o1 := 68) rfl wf_X6_22 dX6_noRow_62 ?_
        refine sw_iload_n X 1 rfl rfl dX6_noRow_65 ?_
        obtain ⟨q13, h⟩ := bnd_E h
        refine sw_iald X (show sw_kd 68 = 8 from rfl) (n := 6) rfl q13 dX6_noRow_66 ?_
        refine sw_iadd X dX6_noRow_67 ?_
        refine sw_icmp_ge X 142 (by decide) dX6_noRow_68 (fun q14 => ?_) (fun q14 => ?_)
        · have h := ite_T h q14
          refine sw_iconst X (v := 0) (by decide) dX6_noRow_142 ?_
          exact sw_iret X hr hlk dX6_noRow_143 h
        · have h := ite_F h q14
          refine sw_iload_n X 2 rfl rfl dX6_noRow_71 ?_
          refine jn1_E (fun (x15 : Int32) => sw_V p l e 3 s m args below meth c g (sw_A g s.heap.size) (sw_QI below g args s r st1) 6 136 [(0, .ref (g.1 63)), (1, .int a1), (3, .int a3), (4, .int x15), (5, .int x10)] [] st) h (fun x15 h => ?_) (fun k16 J17 h => ?_)
          · obtain ⟨x18, ex18⟩ : ∃ y : Int32, y = x10 + 1 := ⟨_, rfl⟩
            have h := nm_E h ex18
            refine sw_iinc X 4 x18 [(5, .int x18), (0, .ref (g.1 63)), (1, .int a1), (3, .int a3), (4, .int x15)] rfl (by rw [ex18]; rfl) (by decide) rfl dX6_noRow_136 ?_
            refine sw_goto X 55 (by decide) dX6_noRow_139 ?_
            refine sw_sub [1, 2, 3, 4, 0] rfl ?_
            exact ih12 _ _ h
          · refine jn0_E (sw_V p l e 3 s m args below meth c g (sw_A g s.heap.size) (sw_QI below g args s r st1) 6 87 [(0, .ref (g.1 63)), (1, .int a1), (3, .int a3), (4, .int x9), (5, .int x10)] [] st) h (fun h => ?_) (fun k19 J20 h => ?_)
            · refine sw_aload_n X 0 rfl rfl dX6_noRow_87 ?_
              refine sw_aload_n X 0 rfl rfl dX6_noRow_88 ?_
              refine sw_getR X sw_cl6 (show sw_kd 63 = 6 from rfl) (k := 6) rfl (by decide) (o1 := 69) rfl wf_X6_25 dX6_noRow_89 ?_
              refine sw_iload X 4 rfl dX6_noRow_92 ?_
              obtain ⟨q21, h⟩ := bnd_E h
              refine sw_iald X (show sw_kd 69 = 8 from rfl) (n := 240) rfl q21 dX6_noRow_94 ?_
              obtain ⟨r23, c22, h⟩ := bo_E h
              refine sw_callVI X (o := 63) (As := (fun g => [.int (st.1 69 (x10 : Int32).toNatClampNeg)])) sw_cl6 (show sw_kd 63 = 6 from rfl) ws_X6_isStranger (by omega) (c_X6_isStranger F (st.1 69 (x10 : Int32).toNatClampNeg) st c22) rfl rfl (Nat.le_of_ble_eq_true rfl) wm_X6_155 dX6_noRow_95 ?_
              refine jn0_E (sw_V p l e 3 s m args below meth c g (sw_A g s.heap.size) (sw_QI below g args s r st1) 6 116 [(0, .ref (g.1 63))] [] st) h (fun h => ?_) (fun k24 J25 h => ?_)
              · refine sw_aload_n X 0 rfl rfl dX6_noRow_116 ?_
                refine sw_iconst X (v := 3) (by decide) dX6_noRow_117 ?_
                obtain ⟨r27, s28, c26, h⟩ := bd_E h
                refine sw_callVI X (o := 63) (As := (fun g => [.int 3])) sw_cl6 (show sw_kd 63 = 6 from rfl) ws_X6_find (by omega) (c_X6_find F 3 st c26) rfl rfl (Nat.le_of_ble_eq_true rfl) wm_X6_73 dX6_noRow_118 ?_
                exact sw_iret X hr hlk dX6_noRow_121 h
              · refine sw_if_eq X 116 (by decide) dX6_noRow_98 (fun q29 => ?_) (fun q29 => ?_)
                · have h := ite_T h q29
                  refine sw_sub [0] rfl ?_
                  exact J25  h
                · have h := ite_F h q29
                  refine sw_iload X 3 rfl dX6_noRow_101 ?_
                  refine sw_aload_n X 0 rfl rfl dX6_noRow_103 ?_
                  refine sw_getR X sw_cl6 (show sw_kd 63 = 6 from rfl) (k := 6) rfl (by decide) (o1 := 69) rfl wf_X6_25 dX6_noRow_104 ?_
                  refine sw_iload X 4 rfl dX6_noRow_107 ?_
                  obtain ⟨q30, h⟩ := bnd_E h
                  refine sw_iald X (show sw_kd 69 = 8 from rfl) (n := 240) rfl q30 dX6_noRow_109 ?_
                  obtain ⟨r32, c31, h⟩ := bo_E h
                  refine sw_callSI X (As := (fun g => [.int x9, .int (st.1 69 (x10 : Int32).toNatClampNeg)])) ws_X6_has (by omega) (c_X6_has F x9 (st.1 69 (x10 : Int32).toNatClampNeg) st c31) rfl rfl (Nat.le_of_ble_eq_true rfl) wm_X6_139 dX6_noRow_110 ?_
                  refine sw_if_eq X 122 (by decide) dX6_noRow_113 (fun q33 => ?_) (fun q33 => ?_)
                  · have h := ite_T h q33
                    refine sw_iload X 3 rfl dX6_noRow_122 ?_
                    refine sw_iconst X (v := 1) (by decide) dX6_noRow_124 ?_
                    refine sw_aload_n X 0 rfl rfl dX6_noRow_125 ?_
                    refine sw_getR X sw_cl6 (show sw_kd 63 = 6 from rfl) (k := 6) rfl (by decide) (o1 := 69) rfl wf_X6_25 dX6_noRow_126 ?_
                    refine sw_iload X 4 rfl dX6_noRow_129 ?_
                    obtain ⟨q34, h⟩ := bnd_E h
                    refine sw_iald X (show sw_kd 69 = 8 from rfl) (n := 240) rfl q34 dX6_noRow_131 ?_
                    refine sw_ishl X dX6_noRow_132 ?_
                    refine sw_ior X dX6_noRow_133 ?_
                    refine sw_topi (fun x35 ex35 => ?_)
                    have h := nm_E h ex35
                    refine sw_istore X [(4, .int x35), (0, .ref (g.1 63)), (1, .int a1), (3, .int a3), (5, .int x10)] (by decide) rfl dX6_noRow_134 ?_
                    refine sw_sub [1, 2, 3, 0, 4] rfl ?_
                    exact J17 _ h
                  · have h := ite_F h q33
                    refine sw_sub [0] rfl ?_
                    exact J25  h
            · refine sw_if_eq X 87 (by decide) dX6_noRow_72 (fun q36 => ?_) (fun q36 => ?_)
              · have h := ite_T h q36
                exact J20  h
              · have h := ite_F h q36
                refine sw_aload_n X 0 rfl rfl dX6_noRow_75 ?_
                refine sw_getR X sw_cl6 (show sw_kd 63 = 6 from rfl) (k := 6) rfl (by decide) (o1 := 69) rfl wf_X6_25 dX6_noRow_76 ?_
                refine sw_iload X 4 rfl dX6_noRow_79 ?_
                obtain ⟨q37, h⟩ := bnd_E h
                refine sw_iald X (show sw_kd 69 = 8 from rfl) (n := 240) rfl q37 dX6_noRow_81 ?_
                refine sw_bipush X (v := (-9)) (by decide) dX6_noRow_82 ?_
                refine sw_icmp_eq X 136 (by decide) dX6_noRow_84 (fun q38 => ?_) (fun q38 => ?_)
                · have h := ite_T h q38
                  exact J17 _ h
                · have h := ite_F h q38
                  exact J20  h
      · have h := ite_F h q5
        refine sw_aload_n X 0 rfl rfl dX6_noRow_35 ?_
        refine sw_iconst X (v := 5) (by decide) dX6_noRow_36 ?_
        obtain ⟨r40, s41, c39, h⟩ := bd_E h
        refine sw_callVI X (o := 63) (As := (fun g => [.int 5])) sw_cl6 (show sw_kd 63 = 6 from rfl) ws_X6_find (by omega) (c_X6_find F 5 st c39) rfl rfl (Nat.le_of_ble_eq_true rfl) wm_X6_73 dX6_noRow_37 ?_
        exact sw_iret X hr hlk dX6_noRow_40 h
    · have h := ite_F h q3
      refine sw_aload_n X 0 rfl rfl dX6_noRow_19 ?_
      refine sw_iconst X (v := 1) (by decide) dX6_noRow_20 ?_
      obtain ⟨r43, s44, c42, h⟩ := bd_E h
      refine sw_callVI X (o := 63) (As := (fun g => [.int 1])) sw_cl6 (show sw_kd 63 = 6 from rfl) ws_X6_find (by omega) (c_X6_find F 1 st c42) rfl rfl (Nat.le_of_ble_eq_true rfl) wm_X6_73 dX6_noRow_21 ?_
      exact sw_iret X hr hlk dX6_noRow_24 h
  · have h := ite_T h q1
    refine sw_bipush X (v := (-4)) (by decide) dX6_noRow_7 ?_
    exact sw_iret X hr hlk dX6_noRow_9 h
theorem dX6_wound_0 : decode cX6_wound 0 = .ok (.iload_n 1, 1) := by decide +kernel
theorem dX6_wound_1 : decode cX6_wound 1 = .ok (.invokestatic 69, 3) := by decide +kernel
theorem dX6_wound_4 : decode cX6_wound 4 = .ok (.ifCond .ne 5, 3) := by decide +kernel
theorem dX6_wound_7 : decode cX6_wound 7 = .ok (.iconst (-1), 1) := by decide +kernel
theorem dX6_wound_8 : decode cX6_wound 8 = .ok (.ireturn, 1) := by decide +kernel
theorem dX6_wound_9 : decode cX6_wound 9 = .ok (.aload_n 0, 1) := by decide +kernel
theorem dX6_wound_10 : decode cX6_wound 10 = .ok (.iload_n 1, 1) := by decide +kernel
theorem dX6_wound_11 : decode cX6_wound 11 = .ok (.bipush 6, 2) := by decide +kernel
theorem dX6_wound_13 : decode cX6_wound 13 = .ok (.iconst 0, 1) := by decide +kernel
theorem dX6_wound_14 : decode cX6_wound 14 = .ok (.invokevirtual 193, 3) := by decide +kernel
theorem dX6_wound_17 : decode cX6_wound 17 = .ok (.istore_n 2, 1) := by decide +kernel
theorem dX6_wound_18 : decode cX6_wound 18 = .ok (.iload_n 2, 1) := by decide +kernel
theorem dX6_wound_19 : decode cX6_wound 19 = .ok (.ifCond .eq 5, 3) := by decide +kernel
theorem dX6_wound_22 : decode cX6_wound 22 = .ok (.iload_n 2, 1) := by decide +kernel
theorem dX6_wound_23 : decode cX6_wound 23 = .ok (.ireturn, 1) := by decide +kernel
theorem dX6_wound_24 : decode cX6_wound 24 = .ok (.aload_n 0, 1) := by decide +kernel
theorem dX6_wound_25 : decode cX6_wound 25 = .ok (.invokevirtual 187, 3) := by decide +kernel
theorem dX6_wound_28 : decode cX6_wound 28 = .ok (.aload_n 0, 1) := by decide +kernel
theorem dX6_wound_29 : decode cX6_wound 29 = .ok (.iconst 0, 1) := by decide +kernel
theorem dX6_wound_30 : decode cX6_wound 30 = .ok (.putfield 58, 3) := by decide +kernel
theorem dX6_wound_33 : decode cX6_wound 33 = .ok (.bipush 40, 2) := by decide +kernel
theorem dX6_wound_35 : decode cX6_wound 35 = .ok (.iload_n 1, 1) := by decide +kernel
theorem dX6_wound_36 : decode cX6_wound 36 = .ok (.imul, 1) := by decide +kernel
theorem dX6_wound_37 : decode cX6_wound 37 = .ok (.istore_n 3, 1) := by decide +kernel
theorem dX6_wound_38 : decode cX6_wound 38 = .ok (.iload_n 3, 1) := by decide +kernel
theorem dX6_wound_39 : decode cX6_wound 39 = .ok (.bipush 40, 2) := by decide +kernel
theorem dX6_wound_41 : decode cX6_wound 41 = .ok (.iload_n 1, 1) := by decide +kernel
theorem dX6_wound_42 : decode cX6_wound 42 = .ok (.imul, 1) := by decide +kernel
theorem dX6_wound_43 : decode cX6_wound 43 = .ok (.aload_n 0, 1) := by decide +kernel
theorem dX6_wound_44 : decode cX6_wound 44 = .ok (.getfield 22, 3) := by decide +kernel
theorem dX6_wound_47 : decode cX6_wound 47 = .ok (.iload_n 1, 1) := by decide +kernel
theorem dX6_wound_48 : decode cX6_wound 48 = .ok (.iaload, 1) := by decide +kernel
theorem dX6_wound_49 : decode cX6_wound 49 = .ok (.iadd, 1) := by decide +kernel
theorem dX6_wound_50 : decode cX6_wound 50 = .ok (.if_icmp .ge 42, 3) := by decide +kernel
theorem dX6_wound_53 : decode cX6_wound 53 = .ok (.aload_n 0, 1) := by decide +kernel
theorem dX6_wound_54 : decode cX6_wound 54 = .ok (.sipush 828, 3) := by decide +kernel
theorem dX6_wound_57 : decode cX6_wound 57 = .ok (.aload_n 0, 1) := by decide +kernel
theorem dX6_wound_58 : decode cX6_wound 58 = .ok (.getfield 25, 3) := by decide +kernel
theorem dX6_wound_61 : decode cX6_wound 61 = .ok (.iload_n 3, 1) := by decide +kernel
theorem dX6_wound_62 : decode cX6_wound 62 = .ok (.iaload, 1) := by decide +kernel
theorem dX6_wound_63 : decode cX6_wound 63 = .ok (.invokevirtual 152, 3) := by decide +kernel
theorem dX6_wound_66 : decode cX6_wound 66 = .ok (.aload_n 0, 1) := by decide +kernel
theorem dX6_wound_67 : decode cX6_wound 67 = .ok (.dup, 1) := by decide +kernel
theorem dX6_wound_68 : decode cX6_wound 68 = .ok (.getfield 58, 3) := by decide +kernel
theorem dX6_wound_71 : decode cX6_wound 71 = .ok (.aload_n 0, 1) := by decide +kernel
theorem dX6_wound_72 : decode cX6_wound 72 = .ok (.getfield 19, 3) := by decide +kernel
theorem dX6_wound_75 : decode cX6_wound 75 = .ok (.aload_n 0, 1) := by decide +kernel
theorem dX6_wound_76 : decode cX6_wound 76 = .ok (.getfield 25, 3) := by decide +kernel
theorem dX6_wound_79 : decode cX6_wound 79 = .ok (.iload_n 3, 1) := by decide +kernel
theorem dX6_wound_80 : decode cX6_wound 80 = .ok (.iaload, 1) := by decide +kernel
theorem dX6_wound_81 : decode cX6_wound 81 = .ok (.iaload, 1) := by decide +kernel
theorem dX6_wound_82 : decode cX6_wound 82 = .ok (.iadd, 1) := by decide +kernel
theorem dX6_wound_83 : decode cX6_wound 83 = .ok (.putfield 58, 3) := by decide +kernel
theorem dX6_wound_86 : decode cX6_wound 86 = .ok (.iinc 3 1, 3) := by decide +kernel
theorem dX6_wound_89 : decode cX6_wound 89 = .ok (.goto (-51), 3) := by decide +kernel
theorem dX6_wound_92 : decode cX6_wound 92 = .ok (.aload_n 0, 1) := by decide +kernel
theorem dX6_wound_93 : decode cX6_wound 93 = .ok (.getfield 7, 3) := by decide +kernel
theorem dX6_wound_96 : decode cX6_wound 96 = .ok (.sipush 829, 3) := by decide +kernel
theorem dX6_wound_99 : decode cX6_wound 99 = .ok (.iaload, 1) := by decide +kernel
theorem dX6_wound_100 : decode cX6_wound 100 = .ok (.ireturn, 1) := by decide +kernel
def j_X6_wound (F : Nat) (a1 : Int32) (st : sw_St) : Option (Int32 × sw_St) :=
bo (j_X6_isRow F a1 st) (fun (r2 : Int32) =>
(if r2 = 0 then (
 some (((-1) : Int32), st))
else (
 bd (j_X6_noRow F a1 6 0 st) (fun (r5 : Int32) (s6 : sw_St) =>
 (if r5 = 0 then (
  bd (j_X6_layTried F s6) (fun (_ : Unit) (s9 : sw_St) =>
  nm (sw_setC s9 63 9 0) (fun (s10 : sw_St) =>
  nm (40 * a1) (fun (x11 : Int32) =>
  lz2 (fun f14 (x12 : Int32) (s13 : sw_St) =>
   bnd a1 6 (
   (if ((40 * a1) + (s13.1 68 (a1 : Int32).toNatClampNeg)) ≤ x12 then (
    some ((s13.1 64 829 : Int32), s13))
   else (
    bnd x12 240 (
    bd (j_X6_comesIn F 828 (s13.1 69 (x12 : Int32).toNatClampNeg) s13) (fun (_ : Unit) (s21 : sw_St) =>
    bnd x12 240 (
    bnd (s21.1 69 (x12 : Int32).toNatClampNeg) 6 (
    nm (sw_setC s21 63 9 ((s21.1 63 9) + (s21.1 67 ((s21.1 69 (x12 : Int32).toNatClampNeg) : Int32).toNatClampNeg))) (fun (s24 : sw_St) =>
    nm (x12 + 1) (fun (x25 : Int32) =>
    f14 x25 s24)))))))))) F x11 s10))))
 else (
  some ((r5 : Int32), s6)))))))
set_option maxHeartbeats 4000000 in
set_option maxRecDepth 100000 in
theorem c_X6_wound (F : Nat) (a1 : Int32) (st : sw_St) {r : Int32} {st1 : sw_St} (h : j_X6_wound F a1 st = some (r, st1)) : sw_CI yX6_wound (.code yX6_wound cX6_wound 4 (some .int)) 5 (fun g => [.ref (g.1 63), .int a1]) st r st1 := by
  refine sw_entI RX6 (fun g => [(0, .ref (g.1 63)), (1, .int a1)]) (by decide) rfl (fun _ => Nat.le_of_ble_eq_true rfl) (fun _ => rfl) ?_
  intro p l e s m args below meth c g X hr hlk
  unfold j_X6_wound at h
  refine sw_iload_n X 1 rfl rfl dX6_wound_0 ?_
  obtain ⟨r2, c1, h⟩ := bo_E h
  refine sw_callSI X (As := (fun g => [.int a1])) ws_X6_isRow (by omega) (c_X6_isRow F a1 st c1) rfl rfl (Nat.le_of_ble_eq_true rfl) wm_X6_69 dX6_wound_1 ?_
  refine sw_if_ne X 9 (by decide) dX6_wound_4 (fun q3 => ?_) (fun q3 => ?_)
  · have h := ite_F h q3
    refine sw_aload_n X 0 rfl rfl dX6_wound_9 ?_
    refine sw_iload_n X 1 rfl rfl dX6_wound_10 ?_
    refine sw_bipush X (v := 6) (by decide) dX6_wound_11 ?_
    refine sw_iconst X (v := 0) (by decide) dX6_wound_13 ?_
    obtain ⟨r5, s6, c4, h⟩ := bd_E h
    refine sw_callVI X (o := 63) (As := (fun g => [.int a1, .int 6, .int 0])) sw_cl6 (show sw_kd 63 = 6 from rfl) ws_X6_noRow (by omega) (c_X6_noRow F a1 6 0 st c4) rfl rfl (Nat.le_of_ble_eq_true rfl) wm_X6_193 dX6_wound_14 ?_
    refine sw_istore_n X [(2, .int r5), (0, .ref (g.1 63)), (1, .int a1)] rfl (by decide) rfl dX6_wound_17 ?_
    refine sw_iload_n X 0 rfl rfl dX6_wound_18 ?_
    refine sw_if_eq X 24 (by decide) dX6_wound_19 (fun q7 => ?_) (fun q7 => ?_)
    · have h := ite_T h q7
      refine sw_aload_n X 1 rfl rfl dX6_wound_24 ?_
      obtain ⟨u27, s9, c8, h⟩ := bd_E h
      refine sw_callVV X (o := 63) (As := (fun g => [])) sw_cl6 (show sw_kd 63 = 6 from rfl) ws_X6_layTried (by omega) (c_X6_layTried F s6 c8) rfl rfl (Nat.le_of_ble_eq_true rfl) wm_X6_187 dX6_wound_25 ?_
      refine sw_aload_n X 1 rfl rfl dX6_wound_28 ?_
      refine sw_iconst X (v := 0) (by decide) dX6_wound_29 ?_
      refine sw_putI X sw_cl6 (show sw_kd 63 = 6 from rfl) (k := 9) rfl (by decide) rfl rfl wf_X6_58 dX6_wound_30 (fun s10 es10 => ?_)
      have h := nm_E h es10
      refine sw_bipush X (v := 40) (by decide) dX6_wound_33 ?_
      refine sw_iload_n X 2 rfl rfl dX6_wound_35 ?_
      refine sw_imul X dX6_wound_36 ?_
      refine sw_topi (fun x11 ex11 => ?_)
      have h := nm_E h ex11
      refine sw_istore_n X [(3, .int x11), (2, .int r5), (0, .ref (g.1 63)), (1, .int a1)] rfl (by decide) rfl dX6_wound_37 ?_
      refine sw_sub [2, 3, 0] rfl ?_
      refine lz2_E (fun (x12 : Int32) (s13 : sw_St) => sw_V p l e 5 s m args below meth c g (sw_A g s.heap.size) (sw_QI below g args s r st1) 4 38 [(0, .ref (g.1 63)), (1, .int a1), (3, .int x12)] [] s13) h (fun f14 ih15 x12 s13 h => ?_)
      refine sw_iload_n X 2 rfl rfl dX6_wound_38 ?_
      refine sw_bipush X (v := 40) (by decide) dX6_wound_39 ?_
      refine sw_iload_n X 1 rfl rfl dX6_wound_41 ?_
      refine sw_imul X dX6_wound_42 ?_
      refine sw_aload_n X 0 rfl rfl dX6_wound_43 ?_
      refine sw_getR X sw_cl6 (show sw_kd 63 = 6 from rfl) (k := 5) rfl (by decide) (o1 := 68) rfl wf_X6_22 dX6_wound_44 ?_
      refine sw_iload_n X 1 rfl rfl dX6_wound_47 ?_
      obtain ⟨q16, h⟩ := bnd_E h
      refine sw_iald X (show sw_kd 68 = 8 from rfl) (n := 6) rfl q16 dX6_wound_48 ?_
      refine sw_iadd X dX6_wound_49 ?_
      refine sw_icmp_ge X 92 (by decide) dX6_wound_50 (fun q17 => ?_) (fun q17 => ?_)
      · have h := ite_T h q17
        refine sw_aload_n X 0 rfl rfl dX6_wound_92 ?_
        refine sw_getR X sw_cl6 (show sw_kd 63 = 6 from rfl) (k := 0) rfl (by decide) (o1 := 64) rfl wf_X6_7 dX6_wound_93 ?_
        refine sw_sipush X (v := 829) (by decide) dX6_wound_96 ?_
        refine sw_iald X (show sw_kd 64 = 8 from rfl) (n := 835) rfl (i := 829) (by unfold vp_in; decide) dX6_wound_99 ?_
        exact sw_iret X hr hlk dX6_wound_100 h
      · have h := ite_F h q17
        refine sw_aload_n X 0 rfl rfl dX6_wound_53 ?_
        refine sw_sipush X (v := 828) (by decide) dX6_wound_54 ?_
        refine sw_aload_n X 0 rfl rfl dX6_wound_57 ?_
        refine sw_getR X sw_cl6 (show sw_kd 63 = 6 from rfl) (k := 6) rfl (by decide) (o1 := 69) rfl wf_X6_25 dX6_wound_58 ?_
        refine sw_iload_n X 2 rfl rfl dX6_wound_61 ?_
        obtain ⟨q19, h⟩ := bnd_E h
        refine sw_iald X (show sw_kd 69 = 8 from rfl) (n := 240) rfl q19 dX6_wound_62 ?_
        obtain ⟨u26, s21, c20, h⟩ := bd_E h
        refine sw_callVV X (o := 63) (As := (fun g => [.int 828, .int (s13.1 69 (x12 : Int32).toNatClampNeg)])) sw_cl6 (show sw_kd 63 = 6 from rfl) ws_X6_comesIn (by omega) (c_X6_comesIn F 828 (s13.1 69 (x12 : Int32).toNatClampNeg) s13 c20) rfl rfl (Nat.le_of_ble_eq_true rfl) wm_X6_152 dX6_wound_63 ?_
        refine sw_aload_n X 0 rfl rfl dX6_wound_66 ?_
        refine sw_dup X rfl dX6_wound_67 ?_
        refine sw_getI X sw_cl6 (show sw_kd 63 = 6 from rfl) (k := 9) rfl (by decide) wf_X6_58 dX6_wound_68 ?_
        refine sw_aload_n X 0 rfl rfl dX6_wound_71 ?_
        refine sw_getR X sw_cl6 (show sw_kd 63 = 6 from rfl) (k := 4) rfl (by decide) (o1 := 67) rfl wf_X6_19 dX6_wound_72 ?_
        refine sw_aload_n X 0 rfl rfl dX6_wound_75 ?_
        refine sw_getR X sw_cl6 (show sw_kd 63 = 6 from rfl) (k := 6) rfl (by decide) (o1 := 69) rfl wf_X6_25 dX6_wound_76 ?_
        refine sw_iload_n X 2 rfl rfl dX6_wound_79 ?_
        obtain ⟨q22, h⟩ := bnd_E h
        refine sw_iald X (show sw_kd 69 = 8 from rfl) (n := 240) rfl q22 dX6_wound_80 ?_
        obtain ⟨q23, h⟩ := bnd_E h
        refine sw_iald X (show sw_kd 67 = 8 from rfl) (n := 6) rfl q23 dX6_wound_81 ?_
        refine sw_iadd X dX6_wound_82 ?_
        refine sw_putI X sw_cl6 (show sw_kd 63 = 6 from rfl) (k := 9) rfl (by decide) rfl rfl wf_X6_58 dX6_wound_83 (fun s24 es24 => ?_)
        have h := nm_E h es24
        obtain ⟨x25, ex25⟩ : ∃ y : Int32, y = x12 + 1 := ⟨_, rfl⟩
        have h := nm_E h ex25
        refine sw_iinc X 2 x25 [(3, .int x25), (0, .ref (g.1 63)), (1, .int a1)] rfl (by rw [ex25]; rfl) (by decide) rfl dX6_wound_86 ?_
        refine sw_goto X 38 (by decide) dX6_wound_89 ?_
        refine sw_sub [1, 2, 0] rfl ?_
        exact ih15 _ _ h
    · have h := ite_F h q7
      refine sw_iload_n X 0 rfl rfl dX6_wound_22 ?_
      exact sw_iret X hr hlk dX6_wound_23 h
  · have h := ite_T h q3
    refine sw_iconst X (v := (-1)) (by decide) dX6_wound_7 ?_
    exact sw_iret X hr hlk dX6_wound_8 h
theorem dX6_woundBy_0 : decode cX6_woundBy 0 = .ok (.aload_n 0, 1) := by decide +kernel
theorem dX6_woundBy_1 : decode cX6_woundBy 1 = .ok (.invokevirtual 187, 3) := by decide +kernel
theorem dX6_woundBy_4 : decode cX6_woundBy 4 = .ok (.aload_n 0, 1) := by decide +kernel
theorem dX6_woundBy_5 : decode cX6_woundBy 5 = .ok (.iload_n 1, 1) := by decide +kernel
theorem dX6_woundBy_6 : decode cX6_woundBy 6 = .ok (.invokevirtual 197, 3) := by decide +kernel
theorem dX6_woundBy_9 : decode cX6_woundBy 9 = .ok (.aload_n 0, 1) := by decide +kernel
theorem dX6_woundBy_10 : decode cX6_woundBy 10 = .ok (.getfield 7, 3) := by decide +kernel
theorem dX6_woundBy_13 : decode cX6_woundBy 13 = .ok (.sipush 829, 3) := by decide +kernel
theorem dX6_woundBy_16 : decode cX6_woundBy 16 = .ok (.iaload, 1) := by decide +kernel
theorem dX6_woundBy_17 : decode cX6_woundBy 17 = .ok (.ireturn, 1) := by decide +kernel
def j_X6_woundBy (F : Nat) (a1 : Int32) (st : sw_St) : Option (Int32 × sw_St) :=
bd (j_X6_layTried F st) (fun (_ : Unit) (s2 : sw_St) =>
bd (j_X6_comeTried F a1 s2) (fun (_ : Unit) (s4 : sw_St) =>
some ((s4.1 64 829 : Int32), s4)))
set_option maxHeartbeats 4000000 in
set_option maxRecDepth 100000 in
theorem c_X6_woundBy (F : Nat) (a1 : Int32) (st : sw_St) {r : Int32} {st1 : sw_St} (h : j_X6_woundBy F a1 st = some (r, st1)) : sw_CI yX6_woundBy (.code yX6_woundBy cX6_woundBy 2 (some .int)) 6 (fun g => [.ref (g.1 63), .int a1]) st r st1 := by
  refine sw_entI RX6 (fun g => [(0, .ref (g.1 63)), (1, .int a1)]) (by decide) rfl (fun _ => Nat.le_of_ble_eq_true rfl) (fun _ => rfl) ?_
  intro p l e s m args below meth c g X hr hlk
  unfold j_X6_woundBy at h
  refine sw_aload_n X 0 rfl rfl dX6_woundBy_0 ?_
  obtain ⟨u7, s2, c1, h⟩ := bd_E h
  refine sw_callVV X (o := 63) (As := (fun g => [])) sw_cl6 (show sw_kd 63 = 6 from rfl) ws_X6_layTried (by omega) (c_X6_layTried F st c1) rfl rfl (Nat.le_of_ble_eq_true rfl) wm_X6_187 dX6_woundBy_1 ?_
  refine sw_aload_n X 0 rfl rfl dX6_woundBy_4 ?_
  refine sw_iload_n X 1 rfl rfl dX6_woundBy_5 ?_
  obtain ⟨u6, s4, c3, h⟩ := bd_E h
  refine sw_callVV X (o := 63) (As := (fun g => [.int a1])) sw_cl6 (show sw_kd 63 = 6 from rfl) ws_X6_comeTried (by omega) (c_X6_comeTried F a1 s2 c3) rfl rfl (Nat.le_of_ble_eq_true rfl) wm_X6_197 dX6_woundBy_6 ?_
  refine sw_aload_n X 0 rfl rfl dX6_woundBy_9 ?_
  refine sw_getR X sw_cl6 (show sw_kd 63 = 6 from rfl) (k := 0) rfl (by decide) (o1 := 64) rfl wf_X6_7 dX6_woundBy_10 ?_
  refine sw_sipush X (v := 829) (by decide) dX6_woundBy_13 ?_
  refine sw_iald X (show sw_kd 64 = 8 from rfl) (n := 835) rfl (i := 829) (by unfold vp_in; decide) dX6_woundBy_16 ?_
  exact sw_iret X hr hlk dX6_woundBy_17 h
theorem dX6_isOut_0 : decode cX6_isOut 0 = .ok (.iload_n 1, 1) := by decide +kernel
theorem dX6_isOut_1 : decode cX6_isOut 1 = .ok (.aload_n 0, 1) := by decide +kernel
theorem dX6_isOut_2 : decode cX6_isOut 2 = .ok (.invokevirtual 201, 3) := by decide +kernel
theorem dX6_isOut_5 : decode cX6_isOut 5 = .ok (.iconst (-1), 1) := by decide +kernel
theorem dX6_isOut_6 : decode cX6_isOut 6 = .ok (.ixor, 1) := by decide +kernel
theorem dX6_isOut_7 : decode cX6_isOut 7 = .ok (.iand, 1) := by decide +kernel
theorem dX6_isOut_8 : decode cX6_isOut 8 = .ok (.ifCond .ne 7, 3) := by decide +kernel
theorem dX6_isOut_11 : decode cX6_isOut 11 = .ok (.iconst 1, 1) := by decide +kernel
theorem dX6_isOut_12 : decode cX6_isOut 12 = .ok (.goto 4, 3) := by decide +kernel
theorem dX6_isOut_15 : decode cX6_isOut 15 = .ok (.iconst 0, 1) := by decide +kernel
theorem dX6_isOut_16 : decode cX6_isOut 16 = .ok (.ireturn, 1) := by decide +kernel
def j_X6_isOut (F : Nat) (a1 : Int32) (st : sw_St) : Option Int32 :=
bo (j_X6_out F st) (fun (r2 : Int32) =>
jn (fun (x3 : Int32) => 
  grd (x3 = 0 ∨ x3 = 1) (some (x3 : Int32))) (fun k4 =>
 (if (a1 &&& (r2 ^^^ (-1))) = 0 then (
  k4 1)
 else (
  k4 0))))
set_option maxHeartbeats 4000000 in
set_option maxRecDepth 100000 in
theorem c_X6_isOut (F : Nat) (a1 : Int32) (st : sw_St) {r : Int32} (h : j_X6_isOut F a1 st = some r) : sw_CI yX6_isOut (.code yX6_isOut cX6_isOut 2 (some .boolean)) 2 (fun g => [.ref (g.1 63), .int a1]) st r st := by
  refine sw_entI RX6 (fun g => [(0, .ref (g.1 63)), (1, .int a1)]) (by decide) rfl (fun _ => Nat.le_of_ble_eq_true rfl) (fun _ => rfl) ?_
  intro p l e s m args below meth c g X hr hlk
  unfold j_X6_isOut at h
  refine sw_iload_n X 1 rfl rfl dX6_isOut_0 ?_
  refine sw_aload_n X 0 rfl rfl dX6_isOut_1 ?_
  obtain ⟨r2, c1, h⟩ := bo_E h
  refine sw_callVI X (o := 63) (As := (fun g => [])) sw_cl6 (show sw_kd 63 = 6 from rfl) ws_X6_out (by omega) (c_X6_out F st c1) rfl rfl (Nat.le_of_ble_eq_true rfl) wm_X6_201 dX6_isOut_2 ?_
  refine sw_iconst X (v := (-1)) (by decide) dX6_isOut_5 ?_
  refine sw_ixor X dX6_isOut_6 ?_
  refine sw_iand X dX6_isOut_7 ?_
  refine jn1_E (fun (x3 : Int32) => sw_V p l e 2 s m args below meth c g (sw_A g s.heap.size) (sw_QI below g args s r st) 2 16 [] [.int x3] st) h (fun x3 h => ?_) (fun k4 J5 h => ?_)
  · obtain ⟨q6, h⟩ := grd_E h
    exact sw_zret X hr hlk q6 dX6_isOut_16 (by cases h; rfl)
  · refine sw_if_ne X 15 (by decide) dX6_isOut_8 (fun q7 => ?_) (fun q7 => ?_)
    · have h := ite_F h q7
      refine sw_iconst X (v := 0) (by decide) dX6_isOut_15 ?_
      refine sw_sub [] rfl ?_
      exact J5 _ h
    · have h := ite_T h q7
      refine sw_iconst X (v := 1) (by decide) dX6_isOut_11 ?_
      refine sw_goto X 16 (by decide) dX6_isOut_12 ?_
      refine sw_sub [] rfl ?_
      exact J5 _ h
theorem dX6_most_0 : decode cX6_most 0 = .ok (.aload_n 0, 1) := by decide +kernel
theorem dX6_most_1 : decode cX6_most 1 = .ok (.getfield 136, 3) := by decide +kernel
theorem dX6_most_4 : decode cX6_most 4 = .ok (.ifCond .ne 6, 3) := by decide +kernel
theorem dX6_most_7 : decode cX6_most 7 = .ok (.bipush (-4), 2) := by decide +kernel
theorem dX6_most_9 : decode cX6_most 9 = .ok (.ireturn, 1) := by decide +kernel
theorem dX6_most_10 : decode cX6_most 10 = .ok (.iconst (-1), 1) := by decide +kernel
theorem dX6_most_11 : decode cX6_most 11 = .ok (.istore_n 1, 1) := by decide +kernel
theorem dX6_most_12 : decode cX6_most 12 = .ok (.iconst 0, 1) := by decide +kernel
theorem dX6_most_13 : decode cX6_most 13 = .ok (.istore_n 2, 1) := by decide +kernel
theorem dX6_most_14 : decode cX6_most 14 = .ok (.iload_n 2, 1) := by decide +kernel
theorem dX6_most_15 : decode cX6_most 15 = .ok (.bipush 64, 2) := by decide +kernel
theorem dX6_most_17 : decode cX6_most 17 = .ok (.if_icmp .ge 55, 3) := by decide +kernel
theorem dX6_most_20 : decode cX6_most 20 = .ok (.aload_n 0, 1) := by decide +kernel
theorem dX6_most_21 : decode cX6_most 21 = .ok (.iload_n 2, 1) := by decide +kernel
theorem dX6_most_22 : decode cX6_most 22 = .ok (.invokevirtual 204, 3) := by decide +kernel
theorem dX6_most_25 : decode cX6_most 25 = .ok (.ifCond .eq 11, 3) := by decide +kernel
theorem dX6_most_28 : decode cX6_most 28 = .ok (.aload_n 0, 1) := by decide +kernel
theorem dX6_most_29 : decode cX6_most 29 = .ok (.iload_n 2, 1) := by decide +kernel
theorem dX6_most_30 : decode cX6_most 30 = .ok (.invokevirtual 207, 3) := by decide +kernel
theorem dX6_most_33 : decode cX6_most 33 = .ok (.goto 4, 3) := by decide +kernel
theorem dX6_most_36 : decode cX6_most 36 = .ok (.iconst (-1), 1) := by decide +kernel
theorem dX6_most_37 : decode cX6_most 37 = .ok (.istore_n 3, 1) := by decide +kernel
theorem dX6_most_38 : decode cX6_most 38 = .ok (.aload_n 0, 1) := by decide +kernel
theorem dX6_most_39 : decode cX6_most 39 = .ok (.iload_n 3, 1) := by decide +kernel
theorem dX6_most_40 : decode cX6_most 40 = .ok (.iload_n 1, 1) := by decide +kernel
theorem dX6_most_41 : decode cX6_most 41 = .ok (.if_icmp .le 7, 3) := by decide +kernel
theorem dX6_most_44 : decode cX6_most 44 = .ok (.iload_n 2, 1) := by decide +kernel
theorem dX6_most_45 : decode cX6_most 45 = .ok (.goto 7, 3) := by decide +kernel
theorem dX6_most_48 : decode cX6_most 48 = .ok (.aload_n 0, 1) := by decide +kernel
theorem dX6_most_49 : decode cX6_most 49 = .ok (.getfield 58, 3) := by decide +kernel
theorem dX6_most_52 : decode cX6_most 52 = .ok (.putfield 58, 3) := by decide +kernel
theorem dX6_most_55 : decode cX6_most 55 = .ok (.iload_n 3, 1) := by decide +kernel
theorem dX6_most_56 : decode cX6_most 56 = .ok (.iload_n 1, 1) := by decide +kernel
theorem dX6_most_57 : decode cX6_most 57 = .ok (.if_icmp .le 7, 3) := by decide +kernel
theorem dX6_most_60 : decode cX6_most 60 = .ok (.iload_n 3, 1) := by decide +kernel
theorem dX6_most_61 : decode cX6_most 61 = .ok (.goto 4, 3) := by decide +kernel
theorem dX6_most_64 : decode cX6_most 64 = .ok (.iload_n 1, 1) := by decide +kernel
theorem dX6_most_65 : decode cX6_most 65 = .ok (.istore_n 1, 1) := by decide +kernel
theorem dX6_most_66 : decode cX6_most 66 = .ok (.iinc 2 1, 3) := by decide +kernel
theorem dX6_most_69 : decode cX6_most 69 = .ok (.goto (-55), 3) := by decide +kernel
theorem dX6_most_72 : decode cX6_most 72 = .ok (.iload_n 1, 1) := by decide +kernel
theorem dX6_most_73 : decode cX6_most 73 = .ok (.ireturn, 1) := by decide +kernel
def j_X6_most (F : Nat) (st : sw_St) : Option (Int32 × sw_St) :=
(if (st.1 63 1) = 0 then (
 some (((-4) : Int32), st))
else (
 lz3 (fun f5 (x2 : Int32) (x3 : Int32) (s4 : sw_St) =>
  (if 64 ≤ x3 then (
   some ((x2 : Int32), s4))
  else (
   bo (j_X6_isOut F x3 s4) (fun (r9 : Int32) =>
   jn (fun (x10 : Int32) (s11 : sw_St) => 
     jn (fun (x14 : Int32) => 
       nm (sw_setC s11 63 9 x14) (fun (s17 : sw_St) =>
       jn (fun (x18 : Int32) => 
         nm (x3 + 1) (fun (x21 : Int32) =>
         f5 x18 x21 s17)) (fun k19 =>
        (if x10 ≤ x2 then (
         k19 x2)
        else (
         k19 x10))))) (fun k15 =>
      (if x10 ≤ x2 then (
       k15 (s11.1 63 9))
      else (
       k15 x3)))) (fun k12 =>
    (if r9 = 0 then (
     k12 (-1) s4)
    else (
     bd (j_X6_woundBy F x3 s4) (fun (r26 : Int32) (s27 : sw_St) =>
     k12 r26 s27)))))))) F (-1) 0 st))
set_option maxHeartbeats 4000000 in
set_option maxRecDepth 100000 in
theorem c_X6_most (F : Nat) (st : sw_St) {r : Int32} {st1 : sw_St} (h : j_X6_most F  st = some (r, st1)) : sw_CI yX6_most (.code yX6_most cX6_most 4 (some .int)) 7 (fun g => [.ref (g.1 63)]) st r st1 := by
  refine sw_entI RX6 (fun g => [(0, .ref (g.1 63))]) (by decide) rfl (fun _ => Nat.le_of_ble_eq_true rfl) (fun _ => rfl) ?_
  intro p l e s m args below meth c g X hr hlk
  unfold j_X6_most at h
  refine sw_aload_n X 0 rfl rfl dX6_most_0 ?_
  refine sw_getI X sw_cl6 (show sw_kd 63 = 6 from rfl) (k := 1) rfl (by decide) wf_X6_136 dX6_most_1 ?_
  refine sw_if_ne X 10 (by decide) dX6_most_4 (fun q1 => ?_) (fun q1 => ?_)
  · have h := ite_F h q1
    refine sw_iconst X (v := (-1)) (by decide) dX6_most_10 ?_
    refine sw_istore_n X [(1, .int (-1)), (0, .ref (g.1 63))] rfl (by decide) rfl dX6_most_11 ?_
    refine sw_iconst X (v := 0) (by decide) dX6_most_12 ?_
    refine sw_istore_n X [(2, .int 0), (1, .int (-1)), (0, .ref (g.1 63))] rfl (by decide) rfl dX6_most_13 ?_
    refine sw_sub [2, 1, 0] rfl ?_
    refine lz3_E (fun (x2 : Int32) (x3 : Int32) (s4 : sw_St) => sw_V p l e 7 s m args below meth c g (sw_A g s.heap.size) (sw_QI below g args s r st1) 4 14 [(0, .ref (g.1 63)), (1, .int x2), (2, .int x3)] [] s4) h (fun f5 ih6 x2 x3 s4 h => ?_)
    refine sw_iload_n X 2 rfl rfl dX6_most_14 ?_
    refine sw_bipush X (v := 64) (by decide) dX6_most_15 ?_
    refine sw_icmp_ge X 72 (by decide) dX6_most_17 (fun q7 => ?_) (fun q7 => ?_)
    · have h := ite_T h q7
      refine sw_iload_n X 1 rfl rfl dX6_most_72 ?_
      exact sw_iret X hr hlk dX6_most_73 h
    · have h := ite_F h q7
      refine sw_aload_n X 0 rfl rfl dX6_most_20 ?_
      refine sw_iload_n X 2 rfl rfl dX6_most_21 ?_
      obtain ⟨r9, c8, h⟩ := bo_E h
      refine sw_callVI X (o := 63) (As := (fun g => [.int x3])) sw_cl6 (show sw_kd 63 = 6 from rfl) ws_X6_isOut (by omega) (c_X6_isOut F x3 s4 c8) rfl rfl (Nat.le_of_ble_eq_true rfl) wm_X6_204 dX6_most_22 ?_
      refine jn2_E (fun (x10 : Int32) (s11 : sw_St) => sw_V p l e 7 s m args below meth c g (sw_A g s.heap.size) (sw_QI below g args s r st1) 4 37 [(0, .ref (g.1 63)), (1, .int x2), (2, .int x3)] [.int x10] s11) h (fun x10 s11 h => ?_) (fun k12 J13 h => ?_)
      · refine sw_istore_n X [(3, .int x10), (0, .ref (g.1 63)), (1, .int x2), (2, .int x3)] rfl (by decide) rfl dX6_most_37 ?_
        refine sw_aload_n X 1 rfl rfl dX6_most_38 ?_
        refine sw_iload_n X 0 rfl rfl dX6_most_39 ?_
        refine sw_iload_n X 2 rfl rfl dX6_most_40 ?_
        refine jn1_E (fun (x14 : Int32) => sw_V p l e 7 s m args below meth c g (sw_A g s.heap.size) (sw_QI below g args s r st1) 4 52 [(0, .ref (g.1 63)), (1, .int x2), (2, .int x3), (3, .int x10)] [.int x14, .ref (g.1 63)] s11) h (fun x14 h => ?_) (fun k15 J16 h => ?_)
        · refine sw_putI X sw_cl6 (show sw_kd 63 = 6 from rfl) (k := 9) rfl (by decide) rfl rfl wf_X6_58 dX6_most_52 (fun s17 es17 => ?_)
          have h := nm_E h es17
          refine sw_iload_n X 3 rfl rfl dX6_most_55 ?_
          refine sw_iload_n X 1 rfl rfl dX6_most_56 ?_
          refine jn1_E (fun (x18 : Int32) => sw_V p l e 7 s m args below meth c g (sw_A g s.heap.size) (sw_QI below g args s r st1) 4 65 [(0, .ref (g.1 63)), (2, .int x3)] [.int x18] s17) h (fun x18 h => ?_) (fun k19 J20 h => ?_)
          · refine sw_istore_n X [(1, .int x18), (0, .ref (g.1 63)), (2, .int x3)] rfl (by decide) rfl dX6_most_65 ?_
            obtain ⟨x21, ex21⟩ : ∃ y : Int32, y = x3 + 1 := ⟨_, rfl⟩
            have h := nm_E h ex21
            refine sw_iinc X 2 x21 [(2, .int x21), (1, .int x18), (0, .ref (g.1 63))] rfl (by rw [ex21]; rfl) (by decide) rfl dX6_most_66 ?_
            refine sw_goto X 14 (by decide) dX6_most_69 ?_
            refine sw_sub [2, 1, 0] rfl ?_
            exact ih6 _ _ _ h
          · refine sw_icmp_le X 64 (by decide) dX6_most_57 (fun q22 => ?_) (fun q22 => ?_)
            · have h := ite_T h q22
              refine sw_iload_n X 1 rfl rfl dX6_most_64 ?_
              refine sw_sub [0, 2] rfl ?_
              exact J20 _ h
            · have h := ite_F h q22
              refine sw_iload_n X 3 rfl rfl dX6_most_60 ?_
              refine sw_goto X 65 (by decide) dX6_most_61 ?_
              refine sw_sub [0, 2] rfl ?_
              exact J20 _ h
        · refine sw_icmp_le X 48 (by decide) dX6_most_41 (fun q23 => ?_) (fun q23 => ?_)
          · have h := ite_T h q23
            refine sw_aload_n X 1 rfl rfl dX6_most_48 ?_
            refine sw_getI X sw_cl6 (show sw_kd 63 = 6 from rfl) (k := 9) rfl (by decide) wf_X6_58 dX6_most_49 ?_
            refine sw_sub [1, 2, 3, 0] rfl ?_
            exact J16 _ h
          · have h := ite_F h q23
            refine sw_iload_n X 3 rfl rfl dX6_most_44 ?_
            refine sw_goto X 52 (by decide) dX6_most_45 ?_
            refine sw_sub [1, 2, 3, 0] rfl ?_
            exact J16 _ h
      · refine sw_if_eq X 36 (by decide) dX6_most_25 (fun q24 => ?_) (fun q24 => ?_)
        · have h := ite_T h q24
          refine sw_iconst X (v := (-1)) (by decide) dX6_most_36 ?_
          exact J13 _ _ h
        · have h := ite_F h q24
          refine sw_aload_n X 0 rfl rfl dX6_most_28 ?_
          refine sw_iload_n X 2 rfl rfl dX6_most_29 ?_
          obtain ⟨r26, s27, c25, h⟩ := bd_E h
          refine sw_callVI X (o := 63) (As := (fun g => [.int x3])) sw_cl6 (show sw_kd 63 = 6 from rfl) ws_X6_woundBy (by omega) (c_X6_woundBy F x3 s4 c25) rfl rfl (Nat.le_of_ble_eq_true rfl) wm_X6_207 dX6_most_30 ?_
          refine sw_goto X 37 (by decide) dX6_most_33 ?_
          exact J13 _ _ h
  · have h := ite_T h q1
    refine sw_bipush X (v := (-4)) (by decide) dX6_most_7 ?_
    exact sw_iret X hr hlk dX6_most_9 h
