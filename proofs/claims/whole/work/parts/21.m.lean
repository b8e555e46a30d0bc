theorem dX6_skip_0 : decode cX6_skip 0 = .ok (.aload_n 0, 1) := by decide +kernel
theorem dX6_skip_1 : decode cX6_skip 1 = .ok (.getfield 98, 3) := by decide +kernel
theorem dX6_skip_4 : decode cX6_skip 4 = .ok (.aload_n 0, 1) := by decide +kernel
theorem dX6_skip_5 : decode cX6_skip 5 = .ok (.getfield 101, 3) := by decide +kernel
theorem dX6_skip_8 : decode cX6_skip 8 = .ok (.if_icmp .ge 25, 3) := by decide +kernel
theorem dX6_skip_11 : decode cX6_skip 11 = .ok (.aload_n 0, 1) := by decide +kernel
theorem dX6_skip_12 : decode cX6_skip 12 = .ok (.invokevirtual 104, 3) := by decide +kernel
theorem dX6_skip_15 : decode cX6_skip 15 = .ok (.bipush 32, 2) := by decide +kernel
theorem dX6_skip_17 : decode cX6_skip 17 = .ok (.if_icmp .ne 16, 3) := by decide +kernel
theorem dX6_skip_20 : decode cX6_skip 20 = .ok (.aload_n 0, 1) := by decide +kernel
theorem dX6_skip_21 : decode cX6_skip 21 = .ok (.dup, 1) := by decide +kernel
theorem dX6_skip_22 : decode cX6_skip 22 = .ok (.getfield 98, 3) := by decide +kernel
theorem dX6_skip_25 : decode cX6_skip 25 = .ok (.iconst 1, 1) := by decide +kernel
theorem dX6_skip_26 : decode cX6_skip 26 = .ok (.iadd, 1) := by decide +kernel
theorem dX6_skip_27 : decode cX6_skip 27 = .ok (.putfield 98, 3) := by decide +kernel
theorem dX6_skip_30 : decode cX6_skip 30 = .ok (.goto (-30), 3) := by decide +kernel
theorem dX6_skip_33 : decode cX6_skip 33 = .ok (.return_, 1) := by decide +kernel
def j_X6_skip (F : Nat) (st : sw_St) : Option (Unit × sw_St) :=
lz1 (fun f2 (s1 : sw_St) =>
 jn (
   some ((), s1)) (fun k4 =>
  (if (s1.1 63 16) ≤ (s1.1 63 15) then (
   k4)
  else (
   bo (j_X6_here F s1) (fun (r8 : Int32) =>
   (if r8 = 32 then (
    nm (sw_setC s1 63 15 ((s1.1 63 15) + 1)) (fun (s10 : sw_St) =>
    f2 s10))
   else (
    k4))))))) F st
set_option maxHeartbeats 4000000 in
set_option maxRecDepth 100000 in
theorem c_X6_skip (F : Nat) (st : sw_St) {st1 : sw_St} (h : j_X6_skip F  st = some ((), st1)) : sw_CV yX6_skip (.code yX6_skip cX6_skip 1 none) 2 (fun g => [.ref (g.1 63)]) st  st1 := by
  refine sw_entV RX6 (fun g => [(0, .ref (g.1 63))]) (by decide) rfl (fun _ => Nat.le_of_ble_eq_true rfl) (fun _ => rfl) ?_
  intro p l e s m args below meth c g X hr hlk
  unfold j_X6_skip at h
  refine lz1_E (fun (s1 : sw_St) => sw_V p l e 2 s m args below meth c g (sw_A g s.heap.size) (sw_QV below g args s  st1) 1 0 [(0, .ref (g.1 63))] [] s1) h (fun f2 ih3 s1 h => ?_)
  refine sw_aload_n X 0 rfl rfl dX6_skip_0 ?_
  refine sw_getI X sw_cl6 (show sw_kd 63 = 6 from rfl) (k := 15) rfl (by decide) wf_X6_98 dX6_skip_1 ?_
  refine sw_aload_n X 0 rfl rfl dX6_skip_4 ?_
  refine sw_getI X sw_cl6 (show sw_kd 63 = 6 from rfl) (k := 16) rfl (by decide) wf_X6_101 dX6_skip_5 ?_
  refine jn0_E (sw_V p l e 2 s m args below meth c g (sw_A g s.heap.size) (sw_QV below g args s  st1) 1 33 [] [] s1) h (fun h => ?_) (fun k4 J5 h => ?_)
  · exact sw_vret X hr hlk dX6_skip_33 h
  · refine sw_icmp_ge X 33 (by decide) dX6_skip_8 (fun q6 => ?_) (fun q6 => ?_)
    · have h := ite_T h q6
      refine sw_sub [] rfl ?_
      exact J5  h
    · have h := ite_F h q6
      refine sw_aload_n X 0 rfl rfl dX6_skip_11 ?_
      obtain ⟨r8, c7, h⟩ := bo_E h
      refine sw_callVI X (o := 63) (As := (fun g => [])) sw_cl6 (show sw_kd 63 = 6 from rfl) ws_X6_here (by omega) (c_X6_here F s1 c7) rfl rfl (Nat.le_of_ble_eq_true rfl) wm_X6_104 dX6_skip_12 ?_
      refine sw_bipush X (v := 32) (by decide) dX6_skip_15 ?_
      refine sw_icmp_ne X 33 (by decide) dX6_skip_17 (fun q9 => ?_) (fun q9 => ?_)
      · have h := ite_F h q9
        refine sw_sub [] rfl ?_
        exact J5  h
      · have h := ite_T h q9
        refine sw_aload_n X 0 rfl rfl dX6_skip_20 ?_
        refine sw_dup X rfl dX6_skip_21 ?_
        refine sw_getI X sw_cl6 (show sw_kd 63 = 6 from rfl) (k := 15) rfl (by decide) wf_X6_98 dX6_skip_22 ?_
        refine sw_iconst X (v := 1) (by decide) dX6_skip_25 ?_
        refine sw_iadd X dX6_skip_26 ?_
        refine sw_putI X sw_cl6 (show sw_kd 63 = 6 from rfl) (k := 15) rfl (by decide) rfl rfl wf_X6_98 dX6_skip_27 (fun s10 es10 => ?_)
        have h := nm_E h es10
        refine sw_goto X 0 (by decide) dX6_skip_30 ?_
        exact ih3 _ h
theorem dX6_figure_0 : decode cX6_figure 0 = .ok (.aload_n 0, 1) := by decide +kernel
theorem dX6_figure_1 : decode cX6_figure 1 = .ok (.getfield 98, 3) := by decide +kernel
theorem dX6_figure_4 : decode cX6_figure 4 = .ok (.aload_n 0, 1) := by decide +kernel
theorem dX6_figure_5 : decode cX6_figure 5 = .ok (.getfield 101, 3) := by decide +kernel
theorem dX6_figure_8 : decode cX6_figure 8 = .ok (.if_icmp .eq 24, 3) := by decide +kernel
theorem dX6_figure_11 : decode cX6_figure 11 = .ok (.aload_n 0, 1) := by decide +kernel
theorem dX6_figure_12 : decode cX6_figure 12 = .ok (.invokevirtual 104, 3) := by decide +kernel
theorem dX6_figure_15 : decode cX6_figure 15 = .ok (.i2l, 1) := by decide +kernel
theorem dX6_figure_16 : decode cX6_figure 16 = .ok (.bipush 48, 2) := by decide +kernel
theorem dX6_figure_18 : decode cX6_figure 18 = .ok (.iload_n 1, 1) := by decide +kernel
theorem dX6_figure_19 : decode cX6_figure 19 = .ok (.iadd, 1) := by decide +kernel
theorem dX6_figure_20 : decode cX6_figure 20 = .ok (.i2l, 1) := by decide +kernel
theorem dX6_figure_21 : decode cX6_figure 21 = .ok (.bipush 48, 2) := by decide +kernel
theorem dX6_figure_23 : decode cX6_figure 23 = .ok (.iload_n 2, 1) := by decide +kernel
theorem dX6_figure_24 : decode cX6_figure 24 = .ok (.iadd, 1) := by decide +kernel
theorem dX6_figure_25 : decode cX6_figure 25 = .ok (.i2l, 1) := by decide +kernel
theorem dX6_figure_26 : decode cX6_figure 26 = .ok (.invokestatic 63, 3) := by decide +kernel
theorem dX6_figure_29 : decode cX6_figure 29 = .ok (.ifCond .ne 6, 3) := by decide +kernel
theorem dX6_figure_32 : decode cX6_figure 32 = .ok (.bipush (-9), 2) := by decide +kernel
theorem dX6_figure_34 : decode cX6_figure 34 = .ok (.ireturn, 1) := by decide +kernel
theorem dX6_figure_35 : decode cX6_figure 35 = .ok (.aload_n 0, 1) := by decide +kernel
theorem dX6_figure_36 : decode cX6_figure 36 = .ok (.dup, 1) := by decide +kernel
theorem dX6_figure_37 : decode cX6_figure 37 = .ok (.getfield 98, 3) := by decide +kernel
theorem dX6_figure_40 : decode cX6_figure 40 = .ok (.iconst 1, 1) := by decide +kernel
theorem dX6_figure_41 : decode cX6_figure 41 = .ok (.iadd, 1) := by decide +kernel
theorem dX6_figure_42 : decode cX6_figure 42 = .ok (.putfield 98, 3) := by decide +kernel
theorem dX6_figure_45 : decode cX6_figure 45 = .ok (.aload_n 0, 1) := by decide +kernel
theorem dX6_figure_46 : decode cX6_figure 46 = .ok (.getfield 31, 3) := by decide +kernel
theorem dX6_figure_49 : decode cX6_figure 49 = .ok (.aload_n 0, 1) := by decide +kernel
theorem dX6_figure_50 : decode cX6_figure 50 = .ok (.getfield 95, 3) := by decide +kernel
theorem dX6_figure_53 : decode cX6_figure 53 = .ok (.aload_n 0, 1) := by decide +kernel
theorem dX6_figure_54 : decode cX6_figure 54 = .ok (.getfield 98, 3) := by decide +kernel
theorem dX6_figure_57 : decode cX6_figure 57 = .ok (.iadd, 1) := by decide +kernel
theorem dX6_figure_58 : decode cX6_figure 58 = .ok (.iconst 1, 1) := by decide +kernel
theorem dX6_figure_59 : decode cX6_figure 59 = .ok (.isub, 1) := by decide +kernel
theorem dX6_figure_60 : decode cX6_figure 60 = .ok (.iaload, 1) := by decide +kernel
theorem dX6_figure_61 : decode cX6_figure 61 = .ok (.bipush 48, 2) := by decide +kernel
theorem dX6_figure_63 : decode cX6_figure 63 = .ok (.isub, 1) := by decide +kernel
theorem dX6_figure_64 : decode cX6_figure 64 = .ok (.ireturn, 1) := by decide +kernel
def j_X6_figure (F : Nat) (a1 : Int32) (a2 : Int32) (st : sw_St) : Option (Int32 × sw_St) :=
jn (
  some (((-9) : Int32), st)) (fun k1 =>
 (if (st.1 63 15) = (st.1 63 16) then (
  k1)
 else (
  bo (j_X6_here F st) (fun (r5 : Int32) =>
  bo (j_X6_in F ((r5 : Int32).toInt64) (((48 + a1) : Int32).toInt64) (((48 + a2) : Int32).toInt64) st) (fun (r7 : Int32) =>
  (if r7 = 0 then (
   k1)
  else (
   nm (sw_setC st 63 15 ((st.1 63 15) + 1)) (fun (s9 : sw_St) =>
   bnd (((s9.1 63 14) + (s9.1 63 15)) - 1) 240 (
   some (((s9.1 71 ((((s9.1 63 14) + (s9.1 63 15)) - 1) : Int32).toNatClampNeg) - 48 : Int32), s9))))))))))
set_option maxHeartbeats 4000000 in
set_option maxRecDepth 100000 in
theorem c_X6_figure (F : Nat) (a1 : Int32) (a2 : Int32) (st : sw_St) {r : Int32} {st1 : sw_St} (h : j_X6_figure F a1 a2 st = some (r, st1)) : sw_CI yX6_figure (.code yX6_figure cX6_figure 3 (some .int)) 2 (fun g => [.ref (g.1 63), .int a1, .int a2]) st r st1 := by
  refine sw_entI RX6 (fun g => [(0, .ref (g.1 63)), (1, .int a1), (2, .int a2)]) (by decide) rfl (fun _ => Nat.le_of_ble_eq_true rfl) (fun _ => rfl) ?_
  intro p l e s m args below meth c g X hr hlk
  unfold j_X6_figure at h
  refine sw_aload_n X 0 rfl rfl dX6_figure_0 ?_
  refine sw_getI X sw_cl6 (show sw_kd 63 = 6 from rfl) (k := 15) rfl (by decide) wf_X6_98 dX6_figure_1 ?_
  refine sw_aload_n X 0 rfl rfl dX6_figure_4 ?_
  refine sw_getI X sw_cl6 (show sw_kd 63 = 6 from rfl) (k := 16) rfl (by decide) wf_X6_101 dX6_figure_5 ?_
  refine jn0_E (sw_V p l e 2 s m args below meth c g (sw_A g s.heap.size) (sw_QI below g args s r st1) 3 32 [] [] st) h (fun h => ?_) (fun k1 J2 h => ?_)
  · refine sw_bipush X (v := (-9)) (by decide) dX6_figure_32 ?_
    exact sw_iret X hr hlk dX6_figure_34 h
  · refine sw_icmp_eq X 32 (by decide) dX6_figure_8 (fun q3 => ?_) (fun q3 => ?_)
    · have h := ite_T h q3
      refine sw_sub [] rfl ?_
      exact J2  h
    · have h := ite_F h q3
      refine sw_aload_n X 0 rfl rfl dX6_figure_11 ?_
      obtain ⟨r5, c4, h⟩ := bo_E h
      refine sw_callVI X (o := 63) (As := (fun g => [])) sw_cl6 (show sw_kd 63 = 6 from rfl) ws_X6_here (by omega) (c_X6_here F st c4) rfl rfl (Nat.le_of_ble_eq_true rfl) wm_X6_104 dX6_figure_12 ?_
      refine sw_i2l X dX6_figure_15 ?_
      refine sw_bipush X (v := 48) (by decide) dX6_figure_16 ?_
      refine sw_iload_n X 1 rfl rfl dX6_figure_18 ?_
      refine sw_iadd X dX6_figure_19 ?_
      refine sw_i2l X dX6_figure_20 ?_
      refine sw_bipush X (v := 48) (by decide) dX6_figure_21 ?_
      refine sw_iload_n X 2 rfl rfl dX6_figure_23 ?_
      refine sw_iadd X dX6_figure_24 ?_
      refine sw_i2l X dX6_figure_25 ?_
      obtain ⟨r7, c6, h⟩ := bo_E h
      refine sw_callSI X (As := (fun g => [.long ((r5 : Int32).toInt64), .long (((48 + a1) : Int32).toInt64), .long (((48 + a2) : Int32).toInt64)])) ws_X6_in (by omega) (c_X6_in F ((r5 : Int32).toInt64) (((48 + a1) : Int32).toInt64) (((48 + a2) : Int32).toInt64) st c6) rfl rfl (Nat.le_of_ble_eq_true rfl) wm_X6_63 dX6_figure_26 ?_
      refine sw_if_ne X 35 (by decide) dX6_figure_29 (fun q8 => ?_) (fun q8 => ?_)
      · have h := ite_F h q8
        refine sw_aload_n X 0 rfl rfl dX6_figure_35 ?_
        refine sw_dup X rfl dX6_figure_36 ?_
        refine sw_getI X sw_cl6 (show sw_kd 63 = 6 from rfl) (k := 15) rfl (by decide) wf_X6_98 dX6_figure_37 ?_
        refine sw_iconst X (v := 1) (by decide) dX6_figure_40 ?_
        refine sw_iadd X dX6_figure_41 ?_
        refine sw_putI X sw_cl6 (show sw_kd 63 = 6 from rfl) (k := 15) rfl (by decide) rfl rfl wf_X6_98 dX6_figure_42 (fun s9 es9 => ?_)
        have h := nm_E h es9
        refine sw_aload_n X 0 rfl rfl dX6_figure_45 ?_
        refine sw_getR X sw_cl6 (show sw_kd 63 = 6 from rfl) (k := 8) rfl (by decide) (o1 := 71) rfl wf_X6_31 dX6_figure_46 ?_
        refine sw_aload_n X 0 rfl rfl dX6_figure_49 ?_
        refine sw_getI X sw_cl6 (show sw_kd 63 = 6 from rfl) (k := 14) rfl (by decide) wf_X6_95 dX6_figure_50 ?_
        refine sw_aload_n X 0 rfl rfl dX6_figure_53 ?_
        refine sw_getI X sw_cl6 (show sw_kd 63 = 6 from rfl) (k := 15) rfl (by decide) wf_X6_98 dX6_figure_54 ?_
        refine sw_iadd X dX6_figure_57 ?_
        refine sw_iconst X (v := 1) (by decide) dX6_figure_58 ?_
        refine sw_isub X dX6_figure_59 ?_
        obtain ⟨q10, h⟩ := bnd_E h
        refine sw_iald X (show sw_kd 71 = 8 from rfl) (n := 240) rfl q10 dX6_figure_60 ?_
        refine sw_bipush X (v := 48) (by decide) dX6_figure_61 ?_
        refine sw_isub X dX6_figure_63 ?_
        exact sw_iret X hr hlk dX6_figure_64 h
      · have h := ite_T h q8
        refine sw_sub [] rfl ?_
        exact J2  h
theorem dX6_readsSpring_0 : decode cX6_readsSpring 0 = .ok (.aload_n 0, 1) := by decide +kernel
theorem dX6_readsSpring_1 : decode cX6_readsSpring 1 = .ok (.invokevirtual 108, 3) := by decide +kernel
theorem dX6_readsSpring_4 : decode cX6_readsSpring 4 = .ok (.aload_n 0, 1) := by decide +kernel
theorem dX6_readsSpring_5 : decode cX6_readsSpring 5 = .ok (.getfield 98, 3) := by decide +kernel
theorem dX6_readsSpring_8 : decode cX6_readsSpring 8 = .ok (.aload_n 0, 1) := by decide +kernel
theorem dX6_readsSpring_9 : decode cX6_readsSpring 9 = .ok (.getfield 101, 3) := by decide +kernel
theorem dX6_readsSpring_12 : decode cX6_readsSpring 12 = .ok (.if_icmp .eq 12, 3) := by decide +kernel
theorem dX6_readsSpring_15 : decode cX6_readsSpring 15 = .ok (.aload_n 0, 1) := by decide +kernel
theorem dX6_readsSpring_16 : decode cX6_readsSpring 16 = .ok (.invokevirtual 104, 3) := by decide +kernel
theorem dX6_readsSpring_19 : decode cX6_readsSpring 19 = .ok (.bipush 119, 2) := by decide +kernel
theorem dX6_readsSpring_21 : decode cX6_readsSpring 21 = .ok (.if_icmp .eq 5, 3) := by decide +kernel
theorem dX6_readsSpring_24 : decode cX6_readsSpring 24 = .ok (.iconst 0, 1) := by decide +kernel
theorem dX6_readsSpring_25 : decode cX6_readsSpring 25 = .ok (.ireturn, 1) := by decide +kernel
theorem dX6_readsSpring_26 : decode cX6_readsSpring 26 = .ok (.aload_n 0, 1) := by decide +kernel
theorem dX6_readsSpring_27 : decode cX6_readsSpring 27 = .ok (.dup, 1) := by decide +kernel
theorem dX6_readsSpring_28 : decode cX6_readsSpring 28 = .ok (.getfield 98, 3) := by decide +kernel
theorem dX6_readsSpring_31 : decode cX6_readsSpring 31 = .ok (.iconst 1, 1) := by decide +kernel
theorem dX6_readsSpring_32 : decode cX6_readsSpring 32 = .ok (.iadd, 1) := by decide +kernel
theorem dX6_readsSpring_33 : decode cX6_readsSpring 33 = .ok (.putfield 98, 3) := by decide +kernel
theorem dX6_readsSpring_36 : decode cX6_readsSpring 36 = .ok (.aload_n 0, 1) := by decide +kernel
theorem dX6_readsSpring_37 : decode cX6_readsSpring 37 = .ok (.iconst 0, 1) := by decide +kernel
theorem dX6_readsSpring_38 : decode cX6_readsSpring 38 = .ok (.bipush 9, 2) := by decide +kernel
theorem dX6_readsSpring_40 : decode cX6_readsSpring 40 = .ok (.invokevirtual 111, 3) := by decide +kernel
theorem dX6_readsSpring_43 : decode cX6_readsSpring 43 = .ok (.istore_n 1, 1) := by decide +kernel
theorem dX6_readsSpring_44 : decode cX6_readsSpring 44 = .ok (.iload_n 1, 1) := by decide +kernel
theorem dX6_readsSpring_45 : decode cX6_readsSpring 45 = .ok (.bipush (-9), 2) := by decide +kernel
theorem dX6_readsSpring_47 : decode cX6_readsSpring 47 = .ok (.if_icmp .ne 8, 3) := by decide +kernel
theorem dX6_readsSpring_50 : decode cX6_readsSpring 50 = .ok (.bipush (-9), 2) := by decide +kernel
theorem dX6_readsSpring_52 : decode cX6_readsSpring 52 = .ok (.goto 10, 3) := by decide +kernel
theorem dX6_readsSpring_55 : decode cX6_readsSpring 55 = .ok (.aload_n 0, 1) := by decide +kernel
theorem dX6_readsSpring_56 : decode cX6_readsSpring 56 = .ok (.iconst 0, 1) := by decide +kernel
theorem dX6_readsSpring_57 : decode cX6_readsSpring 57 = .ok (.bipush 9, 2) := by decide +kernel
theorem dX6_readsSpring_59 : decode cX6_readsSpring 59 = .ok (.invokevirtual 111, 3) := by decide +kernel
theorem dX6_readsSpring_62 : decode cX6_readsSpring 62 = .ok (.istore_n 2, 1) := by decide +kernel
theorem dX6_readsSpring_63 : decode cX6_readsSpring 63 = .ok (.iload_n 2, 1) := by decide +kernel
theorem dX6_readsSpring_64 : decode cX6_readsSpring 64 = .ok (.bipush (-9), 2) := by decide +kernel
theorem dX6_readsSpring_66 : decode cX6_readsSpring 66 = .ok (.if_icmp .ne 5, 3) := by decide +kernel
theorem dX6_readsSpring_69 : decode cX6_readsSpring 69 = .ok (.iconst 0, 1) := by decide +kernel
theorem dX6_readsSpring_70 : decode cX6_readsSpring 70 = .ok (.ireturn, 1) := by decide +kernel
theorem dX6_readsSpring_71 : decode cX6_readsSpring 71 = .ok (.aload_n 0, 1) := by decide +kernel
theorem dX6_readsSpring_72 : decode cX6_readsSpring 72 = .ok (.bipush 10, 2) := by decide +kernel
theorem dX6_readsSpring_74 : decode cX6_readsSpring 74 = .ok (.iload_n 1, 1) := by decide +kernel
theorem dX6_readsSpring_75 : decode cX6_readsSpring 75 = .ok (.imul, 1) := by decide +kernel
theorem dX6_readsSpring_76 : decode cX6_readsSpring 76 = .ok (.iload_n 2, 1) := by decide +kernel
theorem dX6_readsSpring_77 : decode cX6_readsSpring 77 = .ok (.iadd, 1) := by decide +kernel
theorem dX6_readsSpring_78 : decode cX6_readsSpring 78 = .ok (.putfield 114, 3) := by decide +kernel
theorem dX6_readsSpring_81 : decode cX6_readsSpring 81 = .ok (.aload_n 0, 1) := by decide +kernel
theorem dX6_readsSpring_82 : decode cX6_readsSpring 82 = .ok (.getfield 114, 3) := by decide +kernel
theorem dX6_readsSpring_85 : decode cX6_readsSpring 85 = .ok (.bipush 60, 2) := by decide +kernel
theorem dX6_readsSpring_87 : decode cX6_readsSpring 87 = .ok (.if_icmp .le 15, 3) := by decide +kernel
theorem dX6_readsSpring_90 : decode cX6_readsSpring 90 = .ok (.aload_n 0, 1) := by decide +kernel
theorem dX6_readsSpring_91 : decode cX6_readsSpring 91 = .ok (.dup, 1) := by decide +kernel
theorem dX6_readsSpring_92 : decode cX6_readsSpring 92 = .ok (.getfield 98, 3) := by decide +kernel
theorem dX6_readsSpring_95 : decode cX6_readsSpring 95 = .ok (.iconst 2, 1) := by decide +kernel
theorem dX6_readsSpring_96 : decode cX6_readsSpring 96 = .ok (.isub, 1) := by decide +kernel
theorem dX6_readsSpring_97 : decode cX6_readsSpring 97 = .ok (.putfield 98, 3) := by decide +kernel
theorem dX6_readsSpring_100 : decode cX6_readsSpring 100 = .ok (.iconst 0, 1) := by decide +kernel
theorem dX6_readsSpring_101 : decode cX6_readsSpring 101 = .ok (.ireturn, 1) := by decide +kernel
theorem dX6_readsSpring_102 : decode cX6_readsSpring 102 = .ok (.aload_n 0, 1) := by decide +kernel
theorem dX6_readsSpring_103 : decode cX6_readsSpring 103 = .ok (.aload_n 0, 1) := by decide +kernel
theorem dX6_readsSpring_104 : decode cX6_readsSpring 104 = .ok (.iconst 0, 1) := by decide +kernel
theorem dX6_readsSpring_105 : decode cX6_readsSpring 105 = .ok (.iconst 3, 1) := by decide +kernel
theorem dX6_readsSpring_106 : decode cX6_readsSpring 106 = .ok (.invokevirtual 111, 3) := by decide +kernel
theorem dX6_readsSpring_109 : decode cX6_readsSpring 109 = .ok (.putfield 117, 3) := by decide +kernel
theorem dX6_readsSpring_112 : decode cX6_readsSpring 112 = .ok (.aload_n 0, 1) := by decide +kernel
theorem dX6_readsSpring_113 : decode cX6_readsSpring 113 = .ok (.getfield 117, 3) := by decide +kernel
theorem dX6_readsSpring_116 : decode cX6_readsSpring 116 = .ok (.bipush (-9), 2) := by decide +kernel
theorem dX6_readsSpring_118 : decode cX6_readsSpring 118 = .ok (.if_icmp .eq 7, 3) := by decide +kernel
theorem dX6_readsSpring_121 : decode cX6_readsSpring 121 = .ok (.iconst 1, 1) := by decide +kernel
theorem dX6_readsSpring_122 : decode cX6_readsSpring 122 = .ok (.goto 4, 3) := by decide +kernel
theorem dX6_readsSpring_125 : decode cX6_readsSpring 125 = .ok (.iconst 0, 1) := by decide +kernel
theorem dX6_readsSpring_126 : decode cX6_readsSpring 126 = .ok (.ireturn, 1) := by decide +kernel
def j_X6_readsSpring (F : Nat) (st : sw_St) : Option (Int32 × sw_St) :=
bd (j_X6_skip F st) (fun (_ : Unit) (s2 : sw_St) =>
jn (
  some ((0 : Int32), s2)) (fun k3 =>
 (if (s2.1 63 15) = (s2.1 63 16) then (
  k3)
 else (
  bo (j_X6_here F s2) (fun (r7 : Int32) =>
  (if r7 = 119 then (
   nm (sw_setC s2 63 15 ((s2.1 63 15) + 1)) (fun (s9 : sw_St) =>
   bd (j_X6_figure F 0 9 s9) (fun (r11 : Int32) (s12 : sw_St) =>
   jn (fun (x13 : Int32) (s14 : sw_St) => 
     (if x13 = (-9) then (
      some ((0 : Int32), s14))
     else (
      nm (sw_setC s14 63 17 ((10 * r11) + x13)) (fun (s18 : sw_St) =>
      (if (s18.1 63 17) ≤ 60 then (
       bd (j_X6_figure F 0 3 s18) (fun (r21 : Int32) (s22 : sw_St) =>
       nm (sw_setC s22 63 18 r21) (fun (s23 : sw_St) =>
       jn (fun (x24 : Int32) => 
         grd (x24 = 0 ∨ x24 = 1) (some ((x24 : Int32), s23))) (fun k25 =>
        (if (s23.1 63 18) = (-9) then (
         k25 0)
        else (
         k25 1))))))
      else (
       nm (sw_setC s18 63 15 ((s18.1 63 15) - 2)) (fun (s29 : sw_St) =>
       some ((0 : Int32), s29)))))))) (fun k15 =>
    (if r11 = (-9) then (
     k15 (-9) s12)
    else (
     bd (j_X6_figure F 0 9 s12) (fun (r32 : Int32) (s33 : sw_St) =>
     k15 r32 s33)))))))
  else (
   k3)))))))
set_option maxHeartbeats 4000000 in
set_option maxRecDepth 100000 in
theorem c_X6_readsSpring (F : Nat) (st : sw_St) {r : Int32} {st1 : sw_St} (h : j_X6_readsSpring F  st = some (r, st1)) : sw_CI yX6_readsSpring (.code yX6_readsSpring cX6_readsSpring 3 (some .boolean)) 3 (fun g => [.ref (g.1 63)]) st r st1 := by
  refine sw_entI RX6 (fun g => [(0, .ref (g.1 63))]) (by decide) rfl (fun _ => Nat.le_of_ble_eq_true rfl) (fun _ => rfl) ?_
  intro p l e s m args below meth c g X hr hlk
  unfold j_X6_readsSpring at h
  refine sw_aload_n X 0 rfl rfl dX6_readsSpring_0 ?_
  obtain ⟨u34, s2, c1, h⟩ := bd_E h
  refine sw_callVV X (o := 63) (As := (fun g => [])) sw_cl6 (show sw_kd 63 = 6 from rfl) ws_X6_skip (by omega) (c_X6_skip F st c1) rfl rfl (Nat.le_of_ble_eq_true rfl) wm_X6_108 dX6_readsSpring_1 ?_
  refine sw_aload_n X 0 rfl rfl dX6_readsSpring_4 ?_
  refine sw_getI X sw_cl6 (show sw_kd 63 = 6 from rfl) (k := 15) rfl (by decide) wf_X6_98 dX6_readsSpring_5 ?_
  refine sw_aload_n X 0 rfl rfl dX6_readsSpring_8 ?_
  refine sw_getI X sw_cl6 (show sw_kd 63 = 6 from rfl) (k := 16) rfl (by decide) wf_X6_101 dX6_readsSpring_9 ?_
  refine jn0_E (sw_V p l e 3 s m args below meth c g (sw_A g s.heap.size) (sw_QI below g args s r st1) 3 24 [] [] s2) h (fun h => ?_) (fun k3 J4 h => ?_)
  · refine sw_iconst X (v := 0) (by decide) dX6_readsSpring_24 ?_
    exact sw_zret X hr hlk (Or.inl rfl) dX6_readsSpring_25 h
  · refine sw_icmp_eq X 24 (by decide) dX6_readsSpring_12 (fun q5 => ?_) (fun q5 => ?_)
    · have h := ite_T h q5
      refine sw_sub [] rfl ?_
      exact J4  h
    · have h := ite_F h q5
      refine sw_aload_n X 0 rfl rfl dX6_readsSpring_15 ?_
      obtain ⟨r7, c6, h⟩ := bo_E h
      refine sw_callVI X (o := 63) (As := (fun g => [])) sw_cl6 (show sw_kd 63 = 6 from rfl) ws_X6_here (by omega) (c_X6_here F s2 c6) rfl rfl (Nat.le_of_ble_eq_true rfl) wm_X6_104 dX6_readsSpring_16 ?_
      refine sw_bipush X (v := 119) (by decide) dX6_readsSpring_19 ?_
      refine sw_icmp_eq X 26 (by decide) dX6_readsSpring_21 (fun q8 => ?_) (fun q8 => ?_)
      · have h := ite_T h q8
        refine sw_aload_n X 0 rfl rfl dX6_readsSpring_26 ?_
        refine sw_dup X rfl dX6_readsSpring_27 ?_
        refine sw_getI X sw_cl6 (show sw_kd 63 = 6 from rfl) (k := 15) rfl (by decide) wf_X6_98 dX6_readsSpring_28 ?_
        refine sw_iconst X (v := 1) (by decide) dX6_readsSpring_31 ?_
        refine sw_iadd X dX6_readsSpring_32 ?_
        refine sw_putI X sw_cl6 (show sw_kd 63 = 6 from rfl) (k := 15) rfl (by decide) rfl rfl wf_X6_98 dX6_readsSpring_33 (fun s9 es9 => ?_)
        have h := nm_E h es9
        refine sw_aload_n X 0 rfl rfl dX6_readsSpring_36 ?_
        refine sw_iconst X (v := 0) (by decide) dX6_readsSpring_37 ?_
        refine sw_bipush X (v := 9) (by decide) dX6_readsSpring_38 ?_
        obtain ⟨r11, s12, c10, h⟩ := bd_E h
        refine sw_callVI X (o := 63) (As := (fun g => [.int 0, .int 9])) sw_cl6 (show sw_kd 63 = 6 from rfl) ws_X6_figure (by omega) (c_X6_figure F 0 9 s9 c10) rfl rfl (Nat.le_of_ble_eq_true rfl) wm_X6_111 dX6_readsSpring_40 ?_
        refine sw_istore_n X [(1, .int r11), (0, .ref (g.1 63))] rfl (by decide) rfl dX6_readsSpring_43 ?_
        refine sw_iload_n X 0 rfl rfl dX6_readsSpring_44 ?_
        refine sw_bipush X (v := (-9)) (by decide) dX6_readsSpring_45 ?_
        refine jn2_E (fun (x13 : Int32) (s14 : sw_St) => sw_V p l e 3 s m args below meth c g (sw_A g s.heap.size) (sw_QI below g args s r st1) 3 62 [(0, .ref (g.1 63)), (1, .int r11)] [.int x13] s14) h (fun x13 s14 h => ?_) (fun k15 J16 h => ?_)
        · refine sw_istore_n X [(2, .int x13), (0, .ref (g.1 63)), (1, .int r11)] rfl (by decide) rfl dX6_readsSpring_62 ?_
          refine sw_iload_n X 0 rfl rfl dX6_readsSpring_63 ?_
          refine sw_bipush X (v := (-9)) (by decide) dX6_readsSpring_64 ?_
          refine sw_icmp_ne X 71 (by decide) dX6_readsSpring_66 (fun q17 => ?_) (fun q17 => ?_)
          · have h := ite_F h q17
            refine sw_aload_n X 1 rfl rfl dX6_readsSpring_71 ?_
            refine sw_bipush X (v := 10) (by decide) dX6_readsSpring_72 ?_
            refine sw_iload_n X 2 rfl rfl dX6_readsSpring_74 ?_
            refine sw_imul X dX6_readsSpring_75 ?_
            refine sw_iload_n X 0 rfl rfl dX6_readsSpring_76 ?_
            refine sw_iadd X dX6_readsSpring_77 ?_
            refine sw_putI X sw_cl6 (show sw_kd 63 = 6 from rfl) (k := 17) rfl (by decide) rfl rfl wf_X6_114 dX6_readsSpring_78 (fun s18 es18 => ?_)
            have h := nm_E h es18
            refine sw_aload_n X 1 rfl rfl dX6_readsSpring_81 ?_
            refine sw_getI X sw_cl6 (show sw_kd 63 = 6 from rfl) (k := 17) rfl (by decide) wf_X6_114 dX6_readsSpring_82 ?_
            refine sw_bipush X (v := 60) (by decide) dX6_readsSpring_85 ?_
            refine sw_icmp_le X 102 (by decide) dX6_readsSpring_87 (fun q19 => ?_) (fun q19 => ?_)
            · have h := ite_T h q19
              refine sw_aload_n X 1 rfl rfl dX6_readsSpring_102 ?_
              refine sw_aload_n X 1 rfl rfl dX6_readsSpring_103 ?_
              refine sw_iconst X (v := 0) (by decide) dX6_readsSpring_104 ?_
              refine sw_iconst X (v := 3) (by decide) dX6_readsSpring_105 ?_
              obtain ⟨r21, s22, c20, h⟩ := bd_E h
              refine sw_callVI X (o := 63) (As := (fun g => [.int 0, .int 3])) sw_cl6 (show sw_kd 63 = 6 from rfl) ws_X6_figure (by omega) (c_X6_figure F 0 3 s18 c20) rfl rfl (Nat.le_of_ble_eq_true rfl) wm_X6_111 dX6_readsSpring_106 ?_
              refine sw_putI X sw_cl6 (show sw_kd 63 = 6 from rfl) (k := 18) rfl (by decide) rfl rfl wf_X6_117 dX6_readsSpring_109 (fun s23 es23 => ?_)
              have h := nm_E h es23
              refine sw_aload_n X 1 rfl rfl dX6_readsSpring_112 ?_
              refine sw_getI X sw_cl6 (show sw_kd 63 = 6 from rfl) (k := 18) rfl (by decide) wf_X6_117 dX6_readsSpring_113 ?_
              refine sw_bipush X (v := (-9)) (by decide) dX6_readsSpring_116 ?_
              refine jn1_E (fun (x24 : Int32) => sw_V p l e 3 s m args below meth c g (sw_A g s.heap.size) (sw_QI below g args s r st1) 3 126 [] [.int x24] s23) h (fun x24 h => ?_) (fun k25 J26 h => ?_)
              · obtain ⟨q27, h⟩ := grd_E h
                exact sw_zret X hr hlk q27 dX6_readsSpring_126 h
              · refine sw_icmp_eq X 125 (by decide) dX6_readsSpring_118 (fun q28 => ?_) (fun q28 => ?_)
                · have h := ite_T h q28
                  refine sw_iconst X (v := 0) (by decide) dX6_readsSpring_125 ?_
                  refine sw_sub [] rfl ?_
                  exact J26 _ h
                · have h := ite_F h q28
                  refine sw_iconst X (v := 1) (by decide) dX6_readsSpring_121 ?_
                  refine sw_goto X 126 (by decide) dX6_readsSpring_122 ?_
                  refine sw_sub [] rfl ?_
                  exact J26 _ h
            · have h := ite_F h q19
              refine sw_aload_n X 1 rfl rfl dX6_readsSpring_90 ?_
              refine sw_dup X rfl dX6_readsSpring_91 ?_
              refine sw_getI X sw_cl6 (show sw_kd 63 = 6 from rfl) (k := 15) rfl (by decide) wf_X6_98 dX6_readsSpring_92 ?_
              refine sw_iconst X (v := 2) (by decide) dX6_readsSpring_95 ?_
              refine sw_isub X dX6_readsSpring_96 ?_
              refine sw_putI X sw_cl6 (show sw_kd 63 = 6 from rfl) (k := 15) rfl (by decide) rfl rfl wf_X6_98 dX6_readsSpring_97 (fun s29 es29 => ?_)
              have h := nm_E h es29
              refine sw_iconst X (v := 0) (by decide) dX6_readsSpring_100 ?_
              exact sw_zret X hr hlk (Or.inl rfl) dX6_readsSpring_101 h
          · have h := ite_T h q17
            refine sw_iconst X (v := 0) (by decide) dX6_readsSpring_69 ?_
            exact sw_zret X hr hlk (Or.inl rfl) dX6_readsSpring_70 h
        · refine sw_icmp_ne X 55 (by decide) dX6_readsSpring_47 (fun q30 => ?_) (fun q30 => ?_)
          · have h := ite_F h q30
            refine sw_aload_n X 1 rfl rfl dX6_readsSpring_55 ?_
            refine sw_iconst X (v := 0) (by decide) dX6_readsSpring_56 ?_
            refine sw_bipush X (v := 9) (by decide) dX6_readsSpring_57 ?_
            obtain ⟨r32, s33, c31, h⟩ := bd_E h
            refine sw_callVI X (o := 63) (As := (fun g => [.int 0, .int 9])) sw_cl6 (show sw_kd 63 = 6 from rfl) ws_X6_figure (by omega) (c_X6_figure F 0 9 s12 c31) rfl rfl (Nat.le_of_ble_eq_true rfl) wm_X6_111 dX6_readsSpring_59 ?_
            refine sw_sub [1, 0] rfl ?_
            exact J16 _ _ h
          · have h := ite_T h q30
            refine sw_bipush X (v := (-9)) (by decide) dX6_readsSpring_50 ?_
            refine sw_goto X 62 (by decide) dX6_readsSpring_52 ?_
            refine sw_sub [1, 0] rfl ?_
            exact J16 _ _ h
      · have h := ite_F h q8
        refine sw_sub [] rfl ?_
        exact J4  h
theorem dX6_kindOfLetter_0 : decode cX6_kindOfLetter 0 = .ok (.iload_n 0, 1) := by decide +kernel
theorem dX6_kindOfLetter_1 : decode cX6_kindOfLetter 1 = .ok (.bipush 115, 2) := by decide +kernel
theorem dX6_kindOfLetter_3 : decode cX6_kindOfLetter 3 = .ok (.if_icmp .ne 7, 3) := by decide +kernel
theorem dX6_kindOfLetter_6 : decode cX6_kindOfLetter 6 = .ok (.iconst 0, 1) := by decide +kernel
theorem dX6_kindOfLetter_7 : decode cX6_kindOfLetter 7 = .ok (.goto 55, 3) := by decide +kernel
theorem dX6_kindOfLetter_10 : decode cX6_kindOfLetter 10 = .ok (.iload_n 0, 1) := by decide +kernel
theorem dX6_kindOfLetter_11 : decode cX6_kindOfLetter 11 = .ok (.bipush 116, 2) := by decide +kernel
theorem dX6_kindOfLetter_13 : decode cX6_kindOfLetter 13 = .ok (.if_icmp .ne 7, 3) := by decide +kernel
theorem dX6_kindOfLetter_16 : decode cX6_kindOfLetter 16 = .ok (.iconst 1, 1) := by decide +kernel
theorem dX6_kindOfLetter_17 : decode cX6_kindOfLetter 17 = .ok (.goto 45, 3) := by decide +kernel
theorem dX6_kindOfLetter_20 : decode cX6_kindOfLetter 20 = .ok (.iload_n 0, 1) := by decide +kernel
theorem dX6_kindOfLetter_21 : decode cX6_kindOfLetter 21 = .ok (.bipush 99, 2) := by decide +kernel
theorem dX6_kindOfLetter_23 : decode cX6_kindOfLetter 23 = .ok (.if_icmp .ne 7, 3) := by decide +kernel
theorem dX6_kindOfLetter_26 : decode cX6_kindOfLetter 26 = .ok (.iconst 2, 1) := by decide +kernel
theorem dX6_kindOfLetter_27 : decode cX6_kindOfLetter 27 = .ok (.goto 35, 3) := by decide +kernel
theorem dX6_kindOfLetter_30 : decode cX6_kindOfLetter 30 = .ok (.iload_n 0, 1) := by decide +kernel
theorem dX6_kindOfLetter_31 : decode cX6_kindOfLetter 31 = .ok (.bipush 112, 2) := by decide +kernel
theorem dX6_kindOfLetter_33 : decode cX6_kindOfLetter 33 = .ok (.if_icmp .ne 7, 3) := by decide +kernel
theorem dX6_kindOfLetter_36 : decode cX6_kindOfLetter 36 = .ok (.iconst 3, 1) := by decide +kernel
theorem dX6_kindOfLetter_37 : decode cX6_kindOfLetter 37 = .ok (.goto 25, 3) := by decide +kernel
theorem dX6_kindOfLetter_40 : decode cX6_kindOfLetter 40 = .ok (.iload_n 0, 1) := by decide +kernel
theorem dX6_kindOfLetter_41 : decode cX6_kindOfLetter 41 = .ok (.bipush 109, 2) := by decide +kernel
theorem dX6_kindOfLetter_43 : decode cX6_kindOfLetter 43 = .ok (.if_icmp .ne 7, 3) := by decide +kernel
theorem dX6_kindOfLetter_46 : decode cX6_kindOfLetter 46 = .ok (.iconst 4, 1) := by decide +kernel
theorem dX6_kindOfLetter_47 : decode cX6_kindOfLetter 47 = .ok (.goto 15, 3) := by decide +kernel
theorem dX6_kindOfLetter_50 : decode cX6_kindOfLetter 50 = .ok (.iload_n 0, 1) := by decide +kernel
theorem dX6_kindOfLetter_51 : decode cX6_kindOfLetter 51 = .ok (.bipush 98, 2) := by decide +kernel
theorem dX6_kindOfLetter_53 : decode cX6_kindOfLetter 53 = .ok (.if_icmp .ne 7, 3) := by decide +kernel
theorem dX6_kindOfLetter_56 : decode cX6_kindOfLetter 56 = .ok (.iconst 5, 1) := by decide +kernel
theorem dX6_kindOfLetter_57 : decode cX6_kindOfLetter 57 = .ok (.goto 5, 3) := by decide +kernel
theorem dX6_kindOfLetter_60 : decode cX6_kindOfLetter 60 = .ok (.bipush (-9), 2) := by decide +kernel
theorem dX6_kindOfLetter_62 : decode cX6_kindOfLetter 62 = .ok (.ireturn, 1) := by decide +kernel
def j_X6_kindOfLetter (F : Nat) (a1 : Int32) (st : sw_St) : Option Int32 :=
jn (fun (x1 : Int32) => 
  some (x1 : Int32)) (fun k2 =>
 (if a1 = 115 then (
  k2 0)
 else (
  (if a1 = 116 then (
   k2 1)
  else (
   (if a1 = 99 then (
    k2 2)
   else (
    (if a1 = 112 then (
     k2 3)
    else (
     (if a1 = 109 then (
      k2 4)
     else (
      (if a1 = 98 then (
       k2 5)
      else (
       k2 (-9))))))))))))))
set_option maxHeartbeats 4000000 in
set_option maxRecDepth 100000 in
theorem c_X6_kindOfLetter (F : Nat) (a1 : Int32) (st : sw_St) {r : Int32} (h : j_X6_kindOfLetter F a1 st = some r) : sw_CI yX6_kindOfLetter (.code yX6_kindOfLetter cX6_kindOfLetter 1 (some .int)) 1 (fun g => [.int a1]) st r st := by
  refine sw_entI RX6 (fun g => [(0, .int a1)]) (by decide) rfl (fun _ => Nat.le_of_ble_eq_true rfl) (fun _ => rfl) ?_
  intro p l e s m args below meth c g X hr hlk
  unfold j_X6_kindOfLetter at h
  refine sw_iload_n X 0 rfl rfl dX6_kindOfLetter_0 ?_
  refine sw_bipush X (v := 115) (by decide) dX6_kindOfLetter_1 ?_
  refine jn1_E (fun (x1 : Int32) => sw_V p l e 1 s m args below meth c g (sw_A g s.heap.size) (sw_QI below g args s r st) 1 62 [] [.int x1] st) h (fun x1 h => ?_) (fun k2 J3 h => ?_)
  · exact sw_iret X hr hlk dX6_kindOfLetter_62 (by cases h; rfl)
  · refine sw_icmp_ne X 10 (by decide) dX6_kindOfLetter_3 (fun q4 => ?_) (fun q4 => ?_)
    · have h := ite_F h q4
      refine sw_iload_n X 0 rfl rfl dX6_kindOfLetter_10 ?_
      refine sw_bipush X (v := 116) (by decide) dX6_kindOfLetter_11 ?_
      refine sw_icmp_ne X 20 (by decide) dX6_kindOfLetter_13 (fun q5 => ?_) (fun q5 => ?_)
      · have h := ite_F h q5
        refine sw_iload_n X 0 rfl rfl dX6_kindOfLetter_20 ?_
        refine sw_bipush X (v := 99) (by decide) dX6_kindOfLetter_21 ?_
        refine sw_icmp_ne X 30 (by decide) dX6_kindOfLetter_23 (fun q6 => ?_) (fun q6 => ?_)
        · have h := ite_F h q6
          refine sw_iload_n X 0 rfl rfl dX6_kindOfLetter_30 ?_
          refine sw_bipush X (v := 112) (by decide) dX6_kindOfLetter_31 ?_
          refine sw_icmp_ne X 40 (by decide) dX6_kindOfLetter_33 (fun q7 => ?_) (fun q7 => ?_)
          · have h := ite_F h q7
            refine sw_iload_n X 0 rfl rfl dX6_kindOfLetter_40 ?_
            refine sw_bipush X (v := 109) (by decide) dX6_kindOfLetter_41 ?_
            refine sw_icmp_ne X 50 (by decide) dX6_kindOfLetter_43 (fun q8 => ?_) (fun q8 => ?_)
            · have h := ite_F h q8
              refine sw_iload_n X 0 rfl rfl dX6_kindOfLetter_50 ?_
              refine sw_bipush X (v := 98) (by decide) dX6_kindOfLetter_51 ?_
              refine sw_icmp_ne X 60 (by decide) dX6_kindOfLetter_53 (fun q9 => ?_) (fun q9 => ?_)
              · have h := ite_F h q9
                refine sw_bipush X (v := (-9)) (by decide) dX6_kindOfLetter_60 ?_
                refine sw_sub [] rfl ?_
                exact J3 _ h
              · have h := ite_T h q9
                refine sw_iconst X (v := 5) (by decide) dX6_kindOfLetter_56 ?_
                refine sw_goto X 62 (by decide) dX6_kindOfLetter_57 ?_
                refine sw_sub [] rfl ?_
                exact J3 _ h
            · have h := ite_T h q8
              refine sw_iconst X (v := 4) (by decide) dX6_kindOfLetter_46 ?_
              refine sw_goto X 62 (by decide) dX6_kindOfLetter_47 ?_
              refine sw_sub [] rfl ?_
              exact J3 _ h
          · have h := ite_T h q7
            refine sw_iconst X (v := 3) (by decide) dX6_kindOfLetter_36 ?_
            refine sw_goto X 62 (by decide) dX6_kindOfLetter_37 ?_
            refine sw_sub [] rfl ?_
            exact J3 _ h
        · have h := ite_T h q6
          refine sw_iconst X (v := 2) (by decide) dX6_kindOfLetter_26 ?_
          refine sw_goto X 62 (by decide) dX6_kindOfLetter_27 ?_
          refine sw_sub [] rfl ?_
          exact J3 _ h
      · have h := ite_T h q5
        refine sw_iconst X (v := 1) (by decide) dX6_kindOfLetter_16 ?_
        refine sw_goto X 62 (by decide) dX6_kindOfLetter_17 ?_
        refine sw_sub [] rfl ?_
        exact J3 _ h
    · have h := ite_T h q4
      refine sw_iconst X (v := 0) (by decide) dX6_kindOfLetter_6 ?_
      refine sw_goto X 62 (by decide) dX6_kindOfLetter_7 ?_
      refine sw_sub [] rfl ?_
      exact J3 _ h
theorem dX6_readsStranger_0 : decode cX6_readsStranger 0 = .ok (.aload_n 0, 1) := by decide +kernel
theorem dX6_readsStranger_1 : decode cX6_readsStranger 1 = .ok (.invokevirtual 104, 3) := by decide +kernel
theorem dX6_readsStranger_4 : decode cX6_readsStranger 4 = .ok (.invokestatic 120, 3) := by decide +kernel
theorem dX6_readsStranger_7 : decode cX6_readsStranger 7 = .ok (.istore_n 1, 1) := by decide +kernel
theorem dX6_readsStranger_8 : decode cX6_readsStranger 8 = .ok (.iload_n 1, 1) := by decide +kernel
theorem dX6_readsStranger_9 : decode cX6_readsStranger 9 = .ok (.bipush (-9), 2) := by decide +kernel
theorem dX6_readsStranger_11 : decode cX6_readsStranger 11 = .ok (.if_icmp .eq 12, 3) := by decide +kernel
theorem dX6_readsStranger_14 : decode cX6_readsStranger 14 = .ok (.aload_n 0, 1) := by decide +kernel
theorem dX6_readsStranger_15 : decode cX6_readsStranger 15 = .ok (.getfield 123, 3) := by decide +kernel
theorem dX6_readsStranger_18 : decode cX6_readsStranger 18 = .ok (.bipush 6, 2) := by decide +kernel
theorem dX6_readsStranger_20 : decode cX6_readsStranger 20 = .ok (.if_icmp .ne 5, 3) := by decide +kernel
theorem dX6_readsStranger_23 : decode cX6_readsStranger 23 = .ok (.iconst 0, 1) := by decide +kernel
theorem dX6_readsStranger_24 : decode cX6_readsStranger 24 = .ok (.ireturn, 1) := by decide +kernel
theorem dX6_readsStranger_25 : decode cX6_readsStranger 25 = .ok (.aload_n 0, 1) := by decide +kernel
theorem dX6_readsStranger_26 : decode cX6_readsStranger 26 = .ok (.dup, 1) := by decide +kernel
theorem dX6_readsStranger_27 : decode cX6_readsStranger 27 = .ok (.getfield 98, 3) := by decide +kernel
theorem dX6_readsStranger_30 : decode cX6_readsStranger 30 = .ok (.iconst 1, 1) := by decide +kernel
theorem dX6_readsStranger_31 : decode cX6_readsStranger 31 = .ok (.iadd, 1) := by decide +kernel
theorem dX6_readsStranger_32 : decode cX6_readsStranger 32 = .ok (.putfield 98, 3) := by decide +kernel
theorem dX6_readsStranger_35 : decode cX6_readsStranger 35 = .ok (.aload_n 0, 1) := by decide +kernel
theorem dX6_readsStranger_36 : decode cX6_readsStranger 36 = .ok (.iconst 1, 1) := by decide +kernel
theorem dX6_readsStranger_37 : decode cX6_readsStranger 37 = .ok (.bipush 9, 2) := by decide +kernel
theorem dX6_readsStranger_39 : decode cX6_readsStranger 39 = .ok (.invokevirtual 111, 3) := by decide +kernel
theorem dX6_readsStranger_42 : decode cX6_readsStranger 42 = .ok (.istore_n 2, 1) := by decide +kernel
theorem dX6_readsStranger_43 : decode cX6_readsStranger 43 = .ok (.iload_n 2, 1) := by decide +kernel
theorem dX6_readsStranger_44 : decode cX6_readsStranger 44 = .ok (.bipush (-9), 2) := by decide +kernel
theorem dX6_readsStranger_46 : decode cX6_readsStranger 46 = .ok (.if_icmp .ne 8, 3) := by decide +kernel
theorem dX6_readsStranger_49 : decode cX6_readsStranger 49 = .ok (.bipush (-9), 2) := by decide +kernel
theorem dX6_readsStranger_51 : decode cX6_readsStranger 51 = .ok (.goto 9, 3) := by decide +kernel
theorem dX6_readsStranger_54 : decode cX6_readsStranger 54 = .ok (.aload_n 0, 1) := by decide +kernel
theorem dX6_readsStranger_55 : decode cX6_readsStranger 55 = .ok (.iconst 0, 1) := by decide +kernel
theorem dX6_readsStranger_56 : decode cX6_readsStranger 56 = .ok (.iconst 1, 1) := by decide +kernel
theorem dX6_readsStranger_57 : decode cX6_readsStranger 57 = .ok (.invokevirtual 111, 3) := by decide +kernel
theorem dX6_readsStranger_60 : decode cX6_readsStranger 60 = .ok (.istore_n 3, 1) := by decide +kernel
theorem dX6_readsStranger_61 : decode cX6_readsStranger 61 = .ok (.iload_n 3, 1) := by decide +kernel
theorem dX6_readsStranger_62 : decode cX6_readsStranger 62 = .ok (.bipush (-9), 2) := by decide +kernel
theorem dX6_readsStranger_64 : decode cX6_readsStranger 64 = .ok (.if_icmp .ne 8, 3) := by decide +kernel
theorem dX6_readsStranger_67 : decode cX6_readsStranger 67 = .ok (.bipush (-9), 2) := by decide +kernel
theorem dX6_readsStranger_69 : decode cX6_readsStranger 69 = .ok (.goto 10, 3) := by decide +kernel
theorem dX6_readsStranger_72 : decode cX6_readsStranger 72 = .ok (.aload_n 0, 1) := by decide +kernel
theorem dX6_readsStranger_73 : decode cX6_readsStranger 73 = .ok (.iconst 0, 1) := by decide +kernel
theorem dX6_readsStranger_74 : decode cX6_readsStranger 74 = .ok (.bipush 9, 2) := by decide +kernel
theorem dX6_readsStranger_76 : decode cX6_readsStranger 76 = .ok (.invokevirtual 111, 3) := by decide +kernel
theorem dX6_readsStranger_79 : decode cX6_readsStranger 79 = .ok (.istore 4, 2) := by decide +kernel
theorem dX6_readsStranger_81 : decode cX6_readsStranger 81 = .ok (.iload 4, 2) := by decide +kernel
theorem dX6_readsStranger_83 : decode cX6_readsStranger 83 = .ok (.bipush (-9), 2) := by decide +kernel
theorem dX6_readsStranger_85 : decode cX6_readsStranger 85 = .ok (.if_icmp .ne 5, 3) := by decide +kernel
theorem dX6_readsStranger_88 : decode cX6_readsStranger 88 = .ok (.iconst 0, 1) := by decide +kernel
theorem dX6_readsStranger_89 : decode cX6_readsStranger 89 = .ok (.ireturn, 1) := by decide +kernel
theorem dX6_readsStranger_90 : decode cX6_readsStranger 90 = .ok (.iconst 4, 1) := by decide +kernel
theorem dX6_readsStranger_91 : decode cX6_readsStranger 91 = .ok (.aload_n 0, 1) := by decide +kernel
theorem dX6_readsStranger_92 : decode cX6_readsStranger 92 = .ok (.getfield 123, 3) := by decide +kernel
theorem dX6_readsStranger_95 : decode cX6_readsStranger 95 = .ok (.imul, 1) := by decide +kernel
theorem dX6_readsStranger_96 : decode cX6_readsStranger 96 = .ok (.istore 5, 2) := by decide +kernel
theorem dX6_readsStranger_98 : decode cX6_readsStranger 98 = .ok (.aload_n 0, 1) := by decide +kernel
theorem dX6_readsStranger_99 : decode cX6_readsStranger 99 = .ok (.getfield 41, 3) := by decide +kernel
theorem dX6_readsStranger_102 : decode cX6_readsStranger 102 = .ok (.iload 5, 2) := by decide +kernel
theorem dX6_readsStranger_104 : decode cX6_readsStranger 104 = .ok (.iload_n 1, 1) := by decide +kernel
theorem dX6_readsStranger_105 : decode cX6_readsStranger 105 = .ok (.iastore, 1) := by decide +kernel
theorem dX6_readsStranger_106 : decode cX6_readsStranger 106 = .ok (.aload_n 0, 1) := by decide +kernel
theorem dX6_readsStranger_107 : decode cX6_readsStranger 107 = .ok (.getfield 41, 3) := by decide +kernel
theorem dX6_readsStranger_110 : decode cX6_readsStranger 110 = .ok (.iload 5, 2) := by decide +kernel
theorem dX6_readsStranger_112 : decode cX6_readsStranger 112 = .ok (.iconst 1, 1) := by decide +kernel
theorem dX6_readsStranger_113 : decode cX6_readsStranger 113 = .ok (.iadd, 1) := by decide +kernel
theorem dX6_readsStranger_114 : decode cX6_readsStranger 114 = .ok (.iload_n 2, 1) := by decide +kernel
theorem dX6_readsStranger_115 : decode cX6_readsStranger 115 = .ok (.iastore, 1) := by decide +kernel
theorem dX6_readsStranger_116 : decode cX6_readsStranger 116 = .ok (.aload_n 0, 1) := by decide +kernel
theorem dX6_readsStranger_117 : decode cX6_readsStranger 117 = .ok (.getfield 41, 3) := by decide +kernel
theorem dX6_readsStranger_120 : decode cX6_readsStranger 120 = .ok (.iload 5, 2) := by decide +kernel
theorem dX6_readsStranger_122 : decode cX6_readsStranger 122 = .ok (.iconst 2, 1) := by decide +kernel
theorem dX6_readsStranger_123 : decode cX6_readsStranger 123 = .ok (.iadd, 1) := by decide +kernel
theorem dX6_readsStranger_124 : decode cX6_readsStranger 124 = .ok (.iload_n 3, 1) := by decide +kernel
theorem dX6_readsStranger_125 : decode cX6_readsStranger 125 = .ok (.iastore, 1) := by decide +kernel
theorem dX6_readsStranger_126 : decode cX6_readsStranger 126 = .ok (.aload_n 0, 1) := by decide +kernel
theorem dX6_readsStranger_127 : decode cX6_readsStranger 127 = .ok (.getfield 41, 3) := by decide +kernel
theorem dX6_readsStranger_130 : decode cX6_readsStranger 130 = .ok (.iload 5, 2) := by decide +kernel
theorem dX6_readsStranger_132 : decode cX6_readsStranger 132 = .ok (.iconst 3, 1) := by decide +kernel
theorem dX6_readsStranger_133 : decode cX6_readsStranger 133 = .ok (.iadd, 1) := by decide +kernel
theorem dX6_readsStranger_134 : decode cX6_readsStranger 134 = .ok (.iload 4, 2) := by decide +kernel
theorem dX6_readsStranger_136 : decode cX6_readsStranger 136 = .ok (.iastore, 1) := by decide +kernel
theorem dX6_readsStranger_137 : decode cX6_readsStranger 137 = .ok (.aload_n 0, 1) := by decide +kernel
theorem dX6_readsStranger_138 : decode cX6_readsStranger 138 = .ok (.dup, 1) := by decide +kernel
theorem dX6_readsStranger_139 : decode cX6_readsStranger 139 = .ok (.getfield 123, 3) := by decide +kernel
theorem dX6_readsStranger_142 : decode cX6_readsStranger 142 = .ok (.iconst 1, 1) := by decide +kernel
theorem dX6_readsStranger_143 : decode cX6_readsStranger 143 = .ok (.iadd, 1) := by decide +kernel
theorem dX6_readsStranger_144 : decode cX6_readsStranger 144 = .ok (.putfield 123, 3) := by decide +kernel
theorem dX6_readsStranger_147 : decode cX6_readsStranger 147 = .ok (.iconst 1, 1) := by decide +kernel
theorem dX6_readsStranger_148 : decode cX6_readsStranger 148 = .ok (.ireturn, 1) := by decide +kernel
def j_X6_readsStranger (F : Nat) (st : sw_St) : Option (Int32 × sw_St) :=
bo (j_X6_here F st) (fun (r2 : Int32) =>
bo (j_X6_kindOfLetter F r2 st) (fun (r4 : Int32) =>
jn (
  some ((0 : Int32), st)) (fun k5 =>
 (if r4 = (-9) then (
  k5)
 else (
  (if (st.1 63 20) = 6 then (
   k5)
  else (
   nm (sw_setC st 63 15 ((st.1 63 15) + 1)) (fun (s9 : sw_St) =>
   bd (j_X6_figure F 1 9 s9) (fun (r11 : Int32) (s12 : sw_St) =>
   jn (fun (x13 : Int32) (s14 : sw_St) => 
     jn (fun (x17 : Int32) (s18 : sw_St) => 
       (if x17 = (-9) then (
        some ((0 : Int32), s18))
       else (
        nm (4 * (s18.1 63 20)) (fun (x22 : Int32) =>
        bnd x22 24 (
        nm (sw_setC s18 73 (x22 : Int32).toNatClampNeg r4) (fun (s24 : sw_St) =>
        bnd (x22 + 1) 24 (
        nm (sw_setC s24 73 ((x22 + 1) : Int32).toNatClampNeg r11) (fun (s26 : sw_St) =>
        bnd (x22 + 2) 24 (
        nm (sw_setC s26 73 ((x22 + 2) : Int32).toNatClampNeg x13) (fun (s28 : sw_St) =>
        bnd (x22 + 3) 24 (
        nm (sw_setC s28 73 ((x22 + 3) : Int32).toNatClampNeg x17) (fun (s30 : sw_St) =>
        nm (sw_setC s30 63 20 ((s30.1 63 20) + 1)) (fun (s31 : sw_St) =>
        some ((1 : Int32), s31)))))))))))))) (fun k19 =>
      (if x13 = (-9) then (
       k19 (-9) s14)
      else (
       bd (j_X6_figure F 0 9 s14) (fun (r34 : Int32) (s35 : sw_St) =>
       k19 r34 s35))))) (fun k15 =>
    (if r11 = (-9) then (
     k15 (-9) s12)
    else (
     bd (j_X6_figure F 0 1 s12) (fun (r38 : Int32) (s39 : sw_St) =>
     k15 r38 s39)))))))))))))
set_option maxHeartbeats 4000000 in
set_option maxRecDepth 100000 in
theorem c_X6_readsStranger (F : Nat) (st : sw_St) {r : Int32} {st1 : sw_St} (h : j_X6_readsStranger F  st = some (r, st1)) : sw_CI yX6_readsStranger (.code yX6_readsStranger cX6_readsStranger 6 (some .boolean)) 3 (fun g => [.ref (g.1 63)]) st r st1 := by
  refine sw_entI RX6 (fun g => [(0, .ref (g.1 63))]) (by decide) rfl (fun _ => Nat.le_of_ble_eq_true rfl) (fun _ => rfl) ?_
  intro p l e s m args below meth c g X hr hlk
  unfold j_X6_readsStranger at h
  refine sw_aload_n X 0 rfl rfl dX6_readsStranger_0 ?_
  obtain ⟨r2, c1, h⟩ := bo_E h
  refine sw_callVI X (o := 63) (As := (fun g => [])) sw_cl6 (show sw_kd 63 = 6 from rfl) ws_X6_here (by omega) (c_X6_here F st c1) rfl rfl (Nat.le_of_ble_eq_true rfl) wm_X6_104 dX6_readsStranger_1 ?_
  obtain ⟨r4, c3, h⟩ := bo_E h
  refine sw_callSI X (As := (fun g => [.int r2])) ws_X6_kindOfLetter (by omega) (c_X6_kindOfLetter F r2 st c3) rfl rfl (Nat.le_of_ble_eq_true rfl) wm_X6_120 dX6_readsStranger_4 ?_
  refine sw_istore_n X [(1, .int r4), (0, .ref (g.1 63))] rfl (by decide) rfl dX6_readsStranger_7 ?_
  refine sw_iload_n X 0 rfl rfl dX6_readsStranger_8 ?_
  refine sw_bipush X (v := (-9)) (by decide) dX6_readsStranger_9 ?_
  refine jn0_E (sw_V p l e 3 s m args below meth c g (sw_A g s.heap.size) (sw_QI below g args s r st1) 6 23 [] [] st) h (fun h => ?_) (fun k5 J6 h => ?_)
  · refine sw_iconst X (v := 0) (by decide) dX6_readsStranger_23 ?_
    exact sw_zret X hr hlk (Or.inl rfl) dX6_readsStranger_24 h
  · refine sw_icmp_eq X 23 (by decide) dX6_readsStranger_11 (fun q7 => ?_) (fun q7 => ?_)
    · have h := ite_T h q7
      refine sw_sub [] rfl ?_
      exact J6  h
    · have h := ite_F h q7
      refine sw_aload_n X 1 rfl rfl dX6_readsStranger_14 ?_
      refine sw_getI X sw_cl6 (show sw_kd 63 = 6 from rfl) (k := 20) rfl (by decide) wf_X6_123 dX6_readsStranger_15 ?_
      refine sw_bipush X (v := 6) (by decide) dX6_readsStranger_18 ?_
      refine sw_icmp_ne X 25 (by decide) dX6_readsStranger_20 (fun q8 => ?_) (fun q8 => ?_)
      · have h := ite_F h q8
        refine sw_aload_n X 1 rfl rfl dX6_readsStranger_25 ?_
        refine sw_dup X rfl dX6_readsStranger_26 ?_
        refine sw_getI X sw_cl6 (show sw_kd 63 = 6 from rfl) (k := 15) rfl (by decide) wf_X6_98 dX6_readsStranger_27 ?_
        refine sw_iconst X (v := 1) (by decide) dX6_readsStranger_30 ?_
        refine sw_iadd X dX6_readsStranger_31 ?_
        refine sw_putI X sw_cl6 (show sw_kd 63 = 6 from rfl) (k := 15) rfl (by decide) rfl rfl wf_X6_98 dX6_readsStranger_32 (fun s9 es9 => ?_)
        have h := nm_E h es9
        refine sw_aload_n X 1 rfl rfl dX6_readsStranger_35 ?_
        refine sw_iconst X (v := 1) (by decide) dX6_readsStranger_36 ?_
        refine sw_bipush X (v := 9) (by decide) dX6_readsStranger_37 ?_
        obtain ⟨r11, s12, c10, h⟩ := bd_E h
        refine sw_callVI X (o := 63) (As := (fun g => [.int 1, .int 9])) sw_cl6 (show sw_kd 63 = 6 from rfl) ws_X6_figure (by omega) (c_X6_figure F 1 9 s9 c10) rfl rfl (Nat.le_of_ble_eq_true rfl) wm_X6_111 dX6_readsStranger_39 ?_
        refine sw_istore_n X [(2, .int r11), (1, .int r4), (0, .ref (g.1 63))] rfl (by decide) rfl dX6_readsStranger_42 ?_
        refine sw_iload_n X 0 rfl rfl dX6_readsStranger_43 ?_
        refine sw_bipush X (v := (-9)) (by decide) dX6_readsStranger_44 ?_
        refine jn2_E (fun (x13 : Int32) (s14 : sw_St) => sw_V p l e 3 s m args below meth c g (sw_A g s.heap.size) (sw_QI below g args s r st1) 6 60 [(0, .ref (g.1 63)), (1, .int r4), (2, .int r11)] [.int x13] s14) h (fun x13 s14 h => ?_) (fun k15 J16 h => ?_)
        · refine sw_istore_n X [(3, .int x13), (0, .ref (g.1 63)), (1, .int r4), (2, .int r11)] rfl (by decide) rfl dX6_readsStranger_60 ?_
          refine sw_iload_n X 0 rfl rfl dX6_readsStranger_61 ?_
          refine sw_bipush X (v := (-9)) (by decide) dX6_readsStranger_62 ?_
          refine jn2_E (fun (x17 : Int32) (s18 : sw_St) => sw_V p l e 3 s m args below meth c g (sw_A g s.heap.size) (sw_QI below g args s r st1) 6 79 [(0, .ref (g.1 63)), (1, .int r4), (2, .int r11), (3, .int x13)] [.int x17] s18) h (fun x17 s18 h => ?_) (fun k19 J20 h => ?_)
          · refine sw_istore X [(4, .int x17), (0, .ref (g.1 63)), (1, .int r4), (2, .int r11), (3, .int x13)] (by decide) rfl dX6_readsStranger_79 ?_
            refine sw_iload X 0 rfl dX6_readsStranger_81 ?_
            refine sw_bipush X (v := (-9)) (by decide) dX6_readsStranger_83 ?_
            refine sw_icmp_ne X 90 (by decide) dX6_readsStranger_85 (fun q21 => ?_) (fun q21 => ?_)
            · have h := ite_F h q21
              refine sw_iconst X (v := 4) (by decide) dX6_readsStranger_90 ?_
              refine sw_aload_n X 1 rfl rfl dX6_readsStranger_91 ?_
              refine sw_getI X sw_cl6 (show sw_kd 63 = 6 from rfl) (k := 20) rfl (by decide) wf_X6_123 dX6_readsStranger_92 ?_
              refine sw_imul X dX6_readsStranger_95 ?_
              refine sw_topi (fun x22 ex22 => ?_)
              have h := nm_E h ex22
              refine sw_istore X [(5, .int x22), (4, .int x17), (0, .ref (g.1 63)), (1, .int r4), (2, .int r11), (3, .int x13)] (by decide) rfl dX6_readsStranger_96 ?_
              refine sw_aload_n X 2 rfl rfl dX6_readsStranger_98 ?_
              refine sw_getR X sw_cl6 (show sw_kd 63 = 6 from rfl) (k := 19) rfl (by decide) (o1 := 73) rfl wf_X6_41 dX6_readsStranger_99 ?_
              refine sw_iload X 0 rfl dX6_readsStranger_102 ?_
              refine sw_iload_n X 3 rfl rfl dX6_readsStranger_104 ?_
              obtain ⟨q23, h⟩ := bnd_E h
              refine sw_iast X (show sw_kd 73 = 8 from rfl) (n := 24) rfl q23 dX6_readsStranger_105 (fun s24 es24 => ?_)
              have h := nm_E h es24
              refine sw_aload_n X 2 rfl rfl dX6_readsStranger_106 ?_
              refine sw_getR X sw_cl6 (show sw_kd 63 = 6 from rfl) (k := 19) rfl (by decide) (o1 := 73) rfl wf_X6_41 dX6_readsStranger_107 ?_
              refine sw_iload X 0 rfl dX6_readsStranger_110 ?_
              refine sw_iconst X (v := 1) (by decide) dX6_readsStranger_112 ?_
              refine sw_iadd X dX6_readsStranger_113 ?_
              refine sw_iload_n X 4 rfl rfl dX6_readsStranger_114 ?_
              obtain ⟨q25, h⟩ := bnd_E h
              refine sw_iast X (show sw_kd 73 = 8 from rfl) (n := 24) rfl q25 dX6_readsStranger_115 (fun s26 es26 => ?_)
              have h := nm_E h es26
              refine sw_aload_n X 2 rfl rfl dX6_readsStranger_116 ?_
              refine sw_getR X sw_cl6 (show sw_kd 63 = 6 from rfl) (k := 19) rfl (by decide) (o1 := 73) rfl wf_X6_41 dX6_readsStranger_117 ?_
              refine sw_iload X 0 rfl dX6_readsStranger_120 ?_
              refine sw_iconst X (v := 2) (by decide) dX6_readsStranger_122 ?_
              refine sw_iadd X dX6_readsStranger_123 ?_
              refine sw_iload_n X 5 rfl rfl dX6_readsStranger_124 ?_
              obtain ⟨q27, h⟩ := bnd_E h
              refine sw_iast X (show sw_kd 73 = 8 from rfl) (n := 24) rfl q27 dX6_readsStranger_125 (fun s28 es28 => ?_)
              have h := nm_E h es28
              refine sw_aload_n X 2 rfl rfl dX6_readsStranger_126 ?_
              refine sw_getR X sw_cl6 (show sw_kd 63 = 6 from rfl) (k := 19) rfl (by decide) (o1 := 73) rfl wf_X6_41 dX6_readsStranger_127 ?_
              refine sw_iload X 0 rfl dX6_readsStranger_130 ?_
              refine sw_iconst X (v := 3) (by decide) dX6_readsStranger_132 ?_
              refine sw_iadd X dX6_readsStranger_133 ?_
              refine sw_iload X 1 rfl dX6_readsStranger_134 ?_
              obtain ⟨q29, h⟩ := bnd_E h
              refine sw_iast X (show sw_kd 73 = 8 from rfl) (n := 24) rfl q29 dX6_readsStranger_136 (fun s30 es30 => ?_)
              have h := nm_E h es30
              refine sw_aload_n X 2 rfl rfl dX6_readsStranger_137 ?_
              refine sw_dup X rfl dX6_readsStranger_138 ?_
              refine sw_getI X sw_cl6 (show sw_kd 63 = 6 from rfl) (k := 20) rfl (by decide) wf_X6_123 dX6_readsStranger_139 ?_
              refine sw_iconst X (v := 1) (by decide) dX6_readsStranger_142 ?_
              refine sw_iadd X dX6_readsStranger_143 ?_
              refine sw_putI X sw_cl6 (show sw_kd 63 = 6 from rfl) (k := 20) rfl (by decide) rfl rfl wf_X6_123 dX6_readsStranger_144 (fun s31 es31 => ?_)
              have h := nm_E h es31
              refine sw_iconst X (v := 1) (by decide) dX6_readsStranger_147 ?_
              exact sw_zret X hr hlk (Or.inr rfl) dX6_readsStranger_148 h
            · have h := ite_T h q21
              refine sw_iconst X (v := 0) (by decide) dX6_readsStranger_88 ?_
              exact sw_zret X hr hlk (Or.inl rfl) dX6_readsStranger_89 h
          · refine sw_icmp_ne X 72 (by decide) dX6_readsStranger_64 (fun q32 => ?_) (fun q32 => ?_)
            · have h := ite_F h q32
              refine sw_aload_n X 1 rfl rfl dX6_readsStranger_72 ?_
              refine sw_iconst X (v := 0) (by decide) dX6_readsStranger_73 ?_
              refine sw_bipush X (v := 9) (by decide) dX6_readsStranger_74 ?_
              obtain ⟨r34, s35, c33, h⟩ := bd_E h
              refine sw_callVI X (o := 63) (As := (fun g => [.int 0, .int 9])) sw_cl6 (show sw_kd 63 = 6 from rfl) ws_X6_figure (by omega) (c_X6_figure F 0 9 s14 c33) rfl rfl (Nat.le_of_ble_eq_true rfl) wm_X6_111 dX6_readsStranger_76 ?_
              refine sw_sub [1, 2, 3, 0] rfl ?_
              exact J20 _ _ h
            · have h := ite_T h q32
              refine sw_bipush X (v := (-9)) (by decide) dX6_readsStranger_67 ?_
              refine sw_goto X 79 (by decide) dX6_readsStranger_69 ?_
              refine sw_sub [1, 2, 3, 0] rfl ?_
              exact J20 _ _ h
        · refine sw_icmp_ne X 54 (by decide) dX6_readsStranger_46 (fun q36 => ?_) (fun q36 => ?_)
          · have h := ite_F h q36
            refine sw_aload_n X 2 rfl rfl dX6_readsStranger_54 ?_
            refine sw_iconst X (v := 0) (by decide) dX6_readsStranger_55 ?_
            refine sw_iconst X (v := 1) (by decide) dX6_readsStranger_56 ?_
            obtain ⟨r38, s39, c37, h⟩ := bd_E h
            refine sw_callVI X (o := 63) (As := (fun g => [.int 0, .int 1])) sw_cl6 (show sw_kd 63 = 6 from rfl) ws_X6_figure (by omega) (c_X6_figure F 0 1 s12 c37) rfl rfl (Nat.le_of_ble_eq_true rfl) wm_X6_111 dX6_readsStranger_57 ?_
            refine sw_sub [2, 1, 0] rfl ?_
            exact J16 _ _ h
          · have h := ite_T h q36
            refine sw_bipush X (v := (-9)) (by decide) dX6_readsStranger_49 ?_
            refine sw_goto X 60 (by decide) dX6_readsStranger_51 ?_
            refine sw_sub [2, 1, 0] rfl ?_
            exact J16 _ _ h
      · have h := ite_T h q8
        refine sw_sub [] rfl ?_
        exact J6  h
theorem dX6_faultOf_0 : decode cX6_faultOf 0 = .ok (.aload_n 0, 1) := by decide +kernel
theorem dX6_faultOf_1 : decode cX6_faultOf 1 = .ok (.bipush 60, 2) := by decide +kernel
theorem dX6_faultOf_3 : decode cX6_faultOf 3 = .ok (.iload_n 1, 1) := by decide +kernel
theorem dX6_faultOf_4 : decode cX6_faultOf 4 = .ok (.imul, 1) := by decide +kernel
theorem dX6_faultOf_5 : decode cX6_faultOf 5 = .ok (.putfield 95, 3) := by decide +kernel
theorem dX6_faultOf_8 : decode cX6_faultOf 8 = .ok (.aload_n 0, 1) := by decide +kernel
theorem dX6_faultOf_9 : decode cX6_faultOf 9 = .ok (.iconst 0, 1) := by decide +kernel
theorem dX6_faultOf_10 : decode cX6_faultOf 10 = .ok (.putfield 98, 3) := by decide +kernel
theorem dX6_faultOf_13 : decode cX6_faultOf 13 = .ok (.aload_n 0, 1) := by decide +kernel
theorem dX6_faultOf_14 : decode cX6_faultOf 14 = .ok (.aload_n 0, 1) := by decide +kernel
theorem dX6_faultOf_15 : decode cX6_faultOf 15 = .ok (.getfield 28, 3) := by decide +kernel
theorem dX6_faultOf_18 : decode cX6_faultOf 18 = .ok (.iload_n 1, 1) := by decide +kernel
theorem dX6_faultOf_19 : decode cX6_faultOf 19 = .ok (.iaload, 1) := by decide +kernel
theorem dX6_faultOf_20 : decode cX6_faultOf 20 = .ok (.putfield 101, 3) := by decide +kernel
theorem dX6_faultOf_23 : decode cX6_faultOf 23 = .ok (.aload_n 0, 1) := by decide +kernel
theorem dX6_faultOf_24 : decode cX6_faultOf 24 = .ok (.iconst 0, 1) := by decide +kernel
theorem dX6_faultOf_25 : decode cX6_faultOf 25 = .ok (.putfield 123, 3) := by decide +kernel
theorem dX6_faultOf_28 : decode cX6_faultOf 28 = .ok (.aload_n 0, 1) := by decide +kernel
theorem dX6_faultOf_29 : decode cX6_faultOf 29 = .ok (.invokevirtual 126, 3) := by decide +kernel
theorem dX6_faultOf_32 : decode cX6_faultOf 32 = .ok (.istore_n 2, 1) := by decide +kernel
theorem dX6_faultOf_33 : decode cX6_faultOf 33 = .ok (.iload_n 2, 1) := by decide +kernel
theorem dX6_faultOf_34 : decode cX6_faultOf 34 = .ok (.ifCond .eq 7, 3) := by decide +kernel
theorem dX6_faultOf_37 : decode cX6_faultOf 37 = .ok (.aload_n 0, 1) := by decide +kernel
theorem dX6_faultOf_38 : decode cX6_faultOf 38 = .ok (.invokevirtual 108, 3) := by decide +kernel
theorem dX6_faultOf_41 : decode cX6_faultOf 41 = .ok (.iload_n 2, 1) := by decide +kernel
theorem dX6_faultOf_42 : decode cX6_faultOf 42 = .ok (.ifCond .eq 30, 3) := by decide +kernel
theorem dX6_faultOf_45 : decode cX6_faultOf 45 = .ok (.aload_n 0, 1) := by decide +kernel
theorem dX6_faultOf_46 : decode cX6_faultOf 46 = .ok (.getfield 98, 3) := by decide +kernel
theorem dX6_faultOf_49 : decode cX6_faultOf 49 = .ok (.aload_n 0, 1) := by decide +kernel
theorem dX6_faultOf_50 : decode cX6_faultOf 50 = .ok (.getfield 101, 3) := by decide +kernel
theorem dX6_faultOf_53 : decode cX6_faultOf 53 = .ok (.if_icmp .ge 19, 3) := by decide +kernel
theorem dX6_faultOf_56 : decode cX6_faultOf 56 = .ok (.aload_n 0, 1) := by decide +kernel
theorem dX6_faultOf_57 : decode cX6_faultOf 57 = .ok (.invokevirtual 130, 3) := by decide +kernel
theorem dX6_faultOf_60 : decode cX6_faultOf 60 = .ok (.istore_n 2, 1) := by decide +kernel
theorem dX6_faultOf_61 : decode cX6_faultOf 61 = .ok (.iload_n 2, 1) := by decide +kernel
theorem dX6_faultOf_62 : decode cX6_faultOf 62 = .ok (.ifCond .eq (-21), 3) := by decide +kernel
theorem dX6_faultOf_65 : decode cX6_faultOf 65 = .ok (.aload_n 0, 1) := by decide +kernel
theorem dX6_faultOf_66 : decode cX6_faultOf 66 = .ok (.invokevirtual 108, 3) := by decide +kernel
theorem dX6_faultOf_69 : decode cX6_faultOf 69 = .ok (.goto (-28), 3) := by decide +kernel
theorem dX6_faultOf_72 : decode cX6_faultOf 72 = .ok (.iload_n 2, 1) := by decide +kernel
theorem dX6_faultOf_73 : decode cX6_faultOf 73 = .ok (.ifCond .eq 15, 3) := by decide +kernel
theorem dX6_faultOf_76 : decode cX6_faultOf 76 = .ok (.aload_n 0, 1) := by decide +kernel
theorem dX6_faultOf_77 : decode cX6_faultOf 77 = .ok (.getfield 123, 3) := by decide +kernel
theorem dX6_faultOf_80 : decode cX6_faultOf 80 = .ok (.ifCond .le 8, 3) := by decide +kernel
theorem dX6_faultOf_83 : decode cX6_faultOf 83 = .ok (.bipush (-9), 2) := by decide +kernel
theorem dX6_faultOf_85 : decode cX6_faultOf 85 = .ok (.goto 7, 3) := by decide +kernel
theorem dX6_faultOf_88 : decode cX6_faultOf 88 = .ok (.aload_n 0, 1) := by decide +kernel
theorem dX6_faultOf_89 : decode cX6_faultOf 89 = .ok (.getfield 98, 3) := by decide +kernel
theorem dX6_faultOf_92 : decode cX6_faultOf 92 = .ok (.ireturn, 1) := by decide +kernel
def j_X6_faultOf (F : Nat) (a1 : Int32) (st : sw_St) : Option (Int32 × sw_St) :=
nm (sw_setC st 63 14 (60 * a1)) (fun (s1 : sw_St) =>
nm (sw_setC s1 63 15 0) (fun (s2 : sw_St) =>
bnd a1 4 (
nm (sw_setC s2 63 16 (s2.1 70 (a1 : Int32).toNatClampNeg)) (fun (s4 : sw_St) =>
nm (sw_setC s4 63 20 0) (fun (s5 : sw_St) =>
bd (j_X6_readsSpring F s5) (fun (r7 : Int32) (s8 : sw_St) =>
jn (fun (s9 : sw_St) => 
  lz2 (fun f14 (x12 : Int32) (s13 : sw_St) =>
   jn (
     jn (fun (x18 : Int32) => 
       some ((x18 : Int32), s13)) (fun k19 =>
      jn (
        k19 (s13.1 63 15)) (fun k21 =>
       (if x12 = 0 then (
        k21)
       else (
        (if (s13.1 63 20) ≤ 0 then (
         k21)
        else (
         k19 (-9)))))))) (fun k16 =>
    (if x12 = 0 then (
     k16)
    else (
     (if (s13.1 63 16) ≤ (s13.1 63 15) then (
      k16)
     else (
      bd (j_X6_readsStranger F s13) (fun (r28 : Int32) (s29 : sw_St) =>
      (if r28 = 0 then (
       f14 r28 s29)
      else (
       bd (j_X6_skip F s29) (fun (_ : Unit) (s32 : sw_St) =>
       f14 r28 s32)))))))))) F r7 s9) (fun k10 =>
 (if r7 = 0 then (
  k10 s8)
 else (
  bd (j_X6_skip F s8) (fun (_ : Unit) (s36 : sw_St) =>
  k10 s36))))))))))
set_option maxHeartbeats 4000000 in
set_option maxRecDepth 100000 in
theorem c_X6_faultOf (F : Nat) (a1 : Int32) (st : sw_St) {r : Int32} {st1 : sw_St} (h : j_X6_faultOf F a1 st = some (r, st1)) : sw_CI yX6_faultOf (.code yX6_faultOf cX6_faultOf 3 (some .int)) 4 (fun g => [.ref (g.1 63), .int a1]) st r st1 := by
  refine sw_entI RX6 (fun g => [(0, .ref (g.1 63)), (1, .int a1)]) (by decide) rfl (fun _ => Nat.le_of_ble_eq_true rfl) (fun _ => rfl) ?_
  intro p l e s m args below meth c g X hr hlk
  unfold j_X6_faultOf at h
  refine sw_aload_n X 0 rfl rfl dX6_faultOf_0 ?_
  refine sw_bipush X (v := 60) (by decide) dX6_faultOf_1 ?_
  refine sw_iload_n X 1 rfl rfl dX6_faultOf_3 ?_
  refine sw_imul X dX6_faultOf_4 ?_
  refine sw_putI X sw_cl6 (show sw_kd 63 = 6 from rfl) (k := 14) rfl (by decide) rfl rfl wf_X6_95 dX6_faultOf_5 (fun s1 es1 => ?_)
  have h := nm_E h es1
  refine sw_aload_n X 0 rfl rfl dX6_faultOf_8 ?_
  refine sw_iconst X (v := 0) (by decide) dX6_faultOf_9 ?_
  refine sw_putI X sw_cl6 (show sw_kd 63 = 6 from rfl) (k := 15) rfl (by decide) rfl rfl wf_X6_98 dX6_faultOf_10 (fun s2 es2 => ?_)
  have h := nm_E h es2
  refine sw_aload_n X 0 rfl rfl dX6_faultOf_13 ?_
  refine sw_aload_n X 0 rfl rfl dX6_faultOf_14 ?_
  refine sw_getR X sw_cl6 (show sw_kd 63 = 6 from rfl) (k := 7) rfl (by decide) (o1 := 70) rfl wf_X6_28 dX6_faultOf_15 ?_
  refine sw_iload_n X 1 rfl rfl dX6_faultOf_18 ?_
  obtain ⟨q3, h⟩ := bnd_E h
  refine sw_iald X (show sw_kd 70 = 8 from rfl) (n := 4) rfl q3 dX6_faultOf_19 ?_
  refine sw_putI X sw_cl6 (show sw_kd 63 = 6 from rfl) (k := 16) rfl (by decide) rfl rfl wf_X6_101 dX6_faultOf_20 (fun s4 es4 => ?_)
  have h := nm_E h es4
  refine sw_aload_n X 0 rfl rfl dX6_faultOf_23 ?_
  refine sw_iconst X (v := 0) (by decide) dX6_faultOf_24 ?_
  refine sw_putI X sw_cl6 (show sw_kd 63 = 6 from rfl) (k := 20) rfl (by decide) rfl rfl wf_X6_123 dX6_faultOf_25 (fun s5 es5 => ?_)
  have h := nm_E h es5
  refine sw_aload_n X 0 rfl rfl dX6_faultOf_28 ?_
  obtain ⟨r7, s8, c6, h⟩ := bd_E h
  refine sw_callVI X (o := 63) (As := (fun g => [])) sw_cl6 (show sw_kd 63 = 6 from rfl) ws_X6_readsSpring (by omega) (c_X6_readsSpring F s5 c6) rfl rfl (Nat.le_of_ble_eq_true rfl) wm_X6_126 dX6_faultOf_29 ?_
  refine sw_istore_n X [(2, .int r7), (0, .ref (g.1 63)), (1, .int a1)] rfl (by decide) rfl dX6_faultOf_32 ?_
  refine sw_iload_n X 0 rfl rfl dX6_faultOf_33 ?_
  refine jn1_E (fun (s9 : sw_St) => sw_V p l e 4 s m args below meth c g (sw_A g s.heap.size) (sw_QI below g args s r st1) 3 41 [(0, .ref (g.1 63)), (2, .int r7)] [] s9) h (fun s9 h => ?_) (fun k10 J11 h => ?_)
  · refine lz2_E (fun (x12 : Int32) (s13 : sw_St) => sw_V p l e 4 s m args below meth c g (sw_A g s.heap.size) (sw_QI below g args s r st1) 3 41 [(0, .ref (g.1 63)), (2, .int x12)] [] s13) h (fun f14 ih15 x12 s13 h => ?_)
    refine sw_iload_n X 1 rfl rfl dX6_faultOf_41 ?_
    refine jn0_E (sw_V p l e 4 s m args below meth c g (sw_A g s.heap.size) (sw_QI below g args s r st1) 3 72 [(0, .ref (g.1 63)), (2, .int x12)] [] s13) h (fun h => ?_) (fun k16 J17 h => ?_)
    · refine sw_iload_n X 1 rfl rfl dX6_faultOf_72 ?_
      refine jn1_E (fun (x18 : Int32) => sw_V p l e 4 s m args below meth c g (sw_A g s.heap.size) (sw_QI below g args s r st1) 3 92 [] [.int x18] s13) h (fun x18 h => ?_) (fun k19 J20 h => ?_)
      · exact sw_iret X hr hlk dX6_faultOf_92 h
      · refine jn0_E (sw_V p l e 4 s m args below meth c g (sw_A g s.heap.size) (sw_QI below g args s r st1) 3 88 [(0, .ref (g.1 63))] [] s13) h (fun h => ?_) (fun k21 J22 h => ?_)
        · refine sw_aload_n X 0 rfl rfl dX6_faultOf_88 ?_
          refine sw_getI X sw_cl6 (show sw_kd 63 = 6 from rfl) (k := 15) rfl (by decide) wf_X6_98 dX6_faultOf_89 ?_
          refine sw_sub [] rfl ?_
          exact J20 _ h
        · refine sw_if_eq X 88 (by decide) dX6_faultOf_73 (fun q23 => ?_) (fun q23 => ?_)
          · have h := ite_T h q23
            refine sw_sub [0] rfl ?_
            exact J22  h
          · have h := ite_F h q23
            refine sw_aload_n X 0 rfl rfl dX6_faultOf_76 ?_
            refine sw_getI X sw_cl6 (show sw_kd 63 = 6 from rfl) (k := 20) rfl (by decide) wf_X6_123 dX6_faultOf_77 ?_
            refine sw_if_le X 88 (by decide) dX6_faultOf_80 (fun q24 => ?_) (fun q24 => ?_)
            · have h := ite_T h q24
              refine sw_sub [0] rfl ?_
              exact J22  h
            · have h := ite_F h q24
              refine sw_bipush X (v := (-9)) (by decide) dX6_faultOf_83 ?_
              refine sw_goto X 92 (by decide) dX6_faultOf_85 ?_
              refine sw_sub [] rfl ?_
              exact J20 _ h
    · refine sw_if_eq X 72 (by decide) dX6_faultOf_42 (fun q25 => ?_) (fun q25 => ?_)
      · have h := ite_T h q25
        exact J17  h
      · have h := ite_F h q25
        refine sw_aload_n X 0 rfl rfl dX6_faultOf_45 ?_
        refine sw_getI X sw_cl6 (show sw_kd 63 = 6 from rfl) (k := 15) rfl (by decide) wf_X6_98 dX6_faultOf_46 ?_
        refine sw_aload_n X 0 rfl rfl dX6_faultOf_49 ?_
        refine sw_getI X sw_cl6 (show sw_kd 63 = 6 from rfl) (k := 16) rfl (by decide) wf_X6_101 dX6_faultOf_50 ?_
        refine sw_icmp_ge X 72 (by decide) dX6_faultOf_53 (fun q26 => ?_) (fun q26 => ?_)
        · have h := ite_T h q26
          exact J17  h
        · have h := ite_F h q26
          refine sw_aload_n X 0 rfl rfl dX6_faultOf_56 ?_
          obtain ⟨r28, s29, c27, h⟩ := bd_E h
          refine sw_callVI X (o := 63) (As := (fun g => [])) sw_cl6 (show sw_kd 63 = 6 from rfl) ws_X6_readsStranger (by omega) (c_X6_readsStranger F s13 c27) rfl rfl (Nat.le_of_ble_eq_true rfl) wm_X6_130 dX6_faultOf_57 ?_
          refine sw_istore_n X [(2, .int r28), (0, .ref (g.1 63))] rfl (by decide) rfl dX6_faultOf_60 ?_
          refine sw_iload_n X 0 rfl rfl dX6_faultOf_61 ?_
          refine sw_if_eq X 41 (by decide) dX6_faultOf_62 (fun q30 => ?_) (fun q30 => ?_)
          · have h := ite_T h q30
            refine sw_sub [1, 0] rfl ?_
            exact ih15 _ _ h
          · have h := ite_F h q30
            refine sw_aload_n X 1 rfl rfl dX6_faultOf_65 ?_
            obtain ⟨u33, s32, c31, h⟩ := bd_E h
            refine sw_callVV X (o := 63) (As := (fun g => [])) sw_cl6 (show sw_kd 63 = 6 from rfl) ws_X6_skip (by omega) (c_X6_skip F s29 c31) rfl rfl (Nat.le_of_ble_eq_true rfl) wm_X6_108 dX6_faultOf_66 ?_
            refine sw_goto X 41 (by decide) dX6_faultOf_69 ?_
            refine sw_sub [1, 0] rfl ?_
            exact ih15 _ _ h
  · refine sw_if_eq X 41 (by decide) dX6_faultOf_34 (fun q34 => ?_) (fun q34 => ?_)
    · have h := ite_T h q34
      refine sw_sub [1, 0] rfl ?_
      exact J11 _ h
    · have h := ite_F h q34
      refine sw_aload_n X 1 rfl rfl dX6_faultOf_37 ?_
      obtain ⟨u37, s36, c35, h⟩ := bd_E h
      refine sw_callVV X (o := 63) (As := (fun g => [])) sw_cl6 (show sw_kd 63 = 6 from rfl) ws_X6_skip (by omega) (c_X6_skip F s8 c35) rfl rfl (Nat.le_of_ble_eq_true rfl) wm_X6_108 dX6_faultOf_38 ?_
      refine sw_sub [1, 0] rfl ?_
      exact J11 _ h
theorem dX6_fault_0 : decode cX6_fault 0 = .ok (.iload_n 1, 1) := by decide +kernel
theorem dX6_fault_1 : decode cX6_fault 1 = .ok (.invokestatic 92, 3) := by decide +kernel
theorem dX6_fault_4 : decode cX6_fault 4 = .ok (.ifCond .ne 5, 3) := by decide +kernel
theorem dX6_fault_7 : decode cX6_fault 7 = .ok (.iconst (-1), 1) := by decide +kernel
theorem dX6_fault_8 : decode cX6_fault 8 = .ok (.ireturn, 1) := by decide +kernel
theorem dX6_fault_9 : decode cX6_fault 9 = .ok (.aload_n 0, 1) := by decide +kernel
theorem dX6_fault_10 : decode cX6_fault 10 = .ok (.getfield 28, 3) := by decide +kernel
theorem dX6_fault_13 : decode cX6_fault 13 = .ok (.iload_n 1, 1) := by decide +kernel
theorem dX6_fault_14 : decode cX6_fault 14 = .ok (.iaload, 1) := by decide +kernel
theorem dX6_fault_15 : decode cX6_fault 15 = .ok (.ifCond .ge 11, 3) := by decide +kernel
theorem dX6_fault_18 : decode cX6_fault 18 = .ok (.aload_n 0, 1) := by decide +kernel
theorem dX6_fault_19 : decode cX6_fault 19 = .ok (.iconst 1, 1) := by decide +kernel
theorem dX6_fault_20 : decode cX6_fault 20 = .ok (.invokevirtual 73, 3) := by decide +kernel
theorem dX6_fault_23 : decode cX6_fault 23 = .ok (.goto 8, 3) := by decide +kernel
theorem dX6_fault_26 : decode cX6_fault 26 = .ok (.aload_n 0, 1) := by decide +kernel
theorem dX6_fault_27 : decode cX6_fault 27 = .ok (.iload_n 1, 1) := by decide +kernel
theorem dX6_fault_28 : decode cX6_fault 28 = .ok (.invokevirtual 133, 3) := by decide +kernel
theorem dX6_fault_31 : decode cX6_fault 31 = .ok (.ireturn, 1) := by decide +kernel
def j_X6_fault (F : Nat) (a1 : Int32) (st : sw_St) : Option (Int32 × sw_St) :=
bo (j_X6_isText F a1 st) (fun (r2 : Int32) =>
(if r2 = 0 then (
 some (((-1) : Int32), st))
else (
 bnd a1 4 (
 jn (fun (x5 : Int32) (s6 : sw_St) => 
   some ((x5 : Int32), s6)) (fun k7 =>
  (if 0 ≤ (st.1 70 (a1 : Int32).toNatClampNeg) then (
   bd (j_X6_faultOf F a1 st) (fun (r11 : Int32) (s12 : sw_St) =>
   k7 r11 s12))
  else (
   bd (j_X6_find F 1 st) (fun (r14 : Int32) (s15 : sw_St) =>
   k7 r14 s15))))))))
set_option maxHeartbeats 4000000 in
set_option maxRecDepth 100000 in
theorem c_X6_fault (F : Nat) (a1 : Int32) (st : sw_St) {r : Int32} {st1 : sw_St} (h : j_X6_fault F a1 st = some (r, st1)) : sw_CI yX6_fault (.code yX6_fault cX6_fault 2 (some .int)) 5 (fun g => [.ref (g.1 63), .int a1]) st r st1 := by
  refine sw_entI RX6 (fun g => [(0, .ref (g.1 63)), (1, .int a1)]) (by decide) rfl (fun _ => Nat.le_of_ble_eq_true rfl) (fun _ => rfl) ?_
  intro p l e s m args below meth c g X hr hlk
  unfold j_X6_fault at h
  refine sw_iload_n X 1 rfl rfl dX6_fault_0 ?_
  obtain ⟨r2, c1, h⟩ := bo_E h
  refine sw_callSI X (As := (fun g => [.int a1])) ws_X6_isText (by omega) (c_X6_isText F a1 st c1) rfl rfl (Nat.le_of_ble_eq_true rfl) wm_X6_92 dX6_fault_1 ?_
  refine sw_if_ne X 9 (by decide) dX6_fault_4 (fun q3 => ?_) (fun q3 => ?_)
  · have h := ite_F h q3
    refine sw_aload_n X 0 rfl rfl dX6_fault_9 ?_
    refine sw_getR X sw_cl6 (show sw_kd 63 = 6 from rfl) (k := 7) rfl (by decide) (o1 := 70) rfl wf_X6_28 dX6_fault_10 ?_
    refine sw_iload_n X 1 rfl rfl dX6_fault_13 ?_
    obtain ⟨q4, h⟩ := bnd_E h
    refine sw_iald X (show sw_kd 70 = 8 from rfl) (n := 4) rfl q4 dX6_fault_14 ?_
    refine jn2_E (fun (x5 : Int32) (s6 : sw_St) => sw_V p l e 5 s m args below meth c g (sw_A g s.heap.size) (sw_QI below g args s r st1) 2 31 [] [.int x5] s6) h (fun x5 s6 h => ?_) (fun k7 J8 h => ?_)
    · exact sw_iret X hr hlk dX6_fault_31 h
    · refine sw_if_ge X 26 (by decide) dX6_fault_15 (fun q9 => ?_) (fun q9 => ?_)
      · have h := ite_T h q9
        refine sw_aload_n X 0 rfl rfl dX6_fault_26 ?_
        refine sw_iload_n X 1 rfl rfl dX6_fault_27 ?_
        obtain ⟨r11, s12, c10, h⟩ := bd_E h
        refine sw_callVI X (o := 63) (As := (fun g => [.int a1])) sw_cl6 (show sw_kd 63 = 6 from rfl) ws_X6_faultOf (by omega) (c_X6_faultOf F a1 st c10) rfl rfl (Nat.le_of_ble_eq_true rfl) wm_X6_133 dX6_fault_28 ?_
        refine sw_sub [] rfl ?_
        exact J8 _ _ h
      · have h := ite_F h q9
        refine sw_aload_n X 0 rfl rfl dX6_fault_18 ?_
        refine sw_iconst X (v := 1) (by decide) dX6_fault_19 ?_
        obtain ⟨r14, s15, c13, h⟩ := bd_E h
        refine sw_callVI X (o := 63) (As := (fun g => [.int 1])) sw_cl6 (show sw_kd 63 = 6 from rfl) ws_X6_find (by omega) (c_X6_find F 1 st c13) rfl rfl (Nat.le_of_ble_eq_true rfl) wm_X6_73 dX6_fault_20 ?_
        refine sw_goto X 31 (by decide) dX6_fault_23 ?_
        refine sw_sub [] rfl ?_
        exact J8 _ _ h
  · have h := ite_T h q3
    refine sw_iconst X (v := (-1)) (by decide) dX6_fault_7 ?_
    exact sw_iret X hr hlk dX6_fault_8 h
