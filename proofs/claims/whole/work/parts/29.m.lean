theorem dX6_lots_0 : decode cX6_lots 0 = .ok (.iload_n 1, 1) := by decide +kernel
theorem dX6_lots_1 : decode cX6_lots 1 = .ok (.i2l, 1) := by decide +kernel
theorem dX6_lots_2 : decode cX6_lots 2 = .ok (.lconst 1, 1) := by decide +kernel
theorem dX6_lots_3 : decode cX6_lots 3 = .ok (.ldc2_w 269, 3) := by decide +kernel
theorem dX6_lots_6 : decode cX6_lots 6 = .ok (.invokestatic 63, 3) := by decide +kernel
theorem dX6_lots_9 : decode cX6_lots 9 = .ok (.ifCond .eq 15, 3) := by decide +kernel
theorem dX6_lots_12 : decode cX6_lots 12 = .ok (.iload_n 2, 1) := by decide +kernel
theorem dX6_lots_13 : decode cX6_lots 13 = .ok (.i2l, 1) := by decide +kernel
theorem dX6_lots_14 : decode cX6_lots 14 = .ok (.lconst 1, 1) := by decide +kernel
theorem dX6_lots_15 : decode cX6_lots 15 = .ok (.ldc2_w 271, 3) := by decide +kernel
theorem dX6_lots_18 : decode cX6_lots 18 = .ok (.invokestatic 63, 3) := by decide +kernel
theorem dX6_lots_21 : decode cX6_lots 21 = .ok (.ifCond .ne 5, 3) := by decide +kernel
theorem dX6_lots_24 : decode cX6_lots 24 = .ok (.iconst (-1), 1) := by decide +kernel
theorem dX6_lots_25 : decode cX6_lots 25 = .ok (.ireturn, 1) := by decide +kernel
theorem dX6_lots_26 : decode cX6_lots 26 = .ok (.aload_n 0, 1) := by decide +kernel
theorem dX6_lots_27 : decode cX6_lots 27 = .ok (.getfield 136, 3) := by decide +kernel
theorem dX6_lots_30 : decode cX6_lots 30 = .ok (.ifCond .ne 6, 3) := by decide +kernel
theorem dX6_lots_33 : decode cX6_lots 33 = .ok (.bipush (-4), 2) := by decide +kernel
theorem dX6_lots_35 : decode cX6_lots 35 = .ok (.ireturn, 1) := by decide +kernel
theorem dX6_lots_36 : decode cX6_lots 36 = .ok (.aload_n 0, 1) := by decide +kernel
theorem dX6_lots_37 : decode cX6_lots 37 = .ok (.getfield 7, 3) := by decide +kernel
theorem dX6_lots_40 : decode cX6_lots 40 = .ok (.iconst 0, 1) := by decide +kernel
theorem dX6_lots_41 : decode cX6_lots 41 = .ok (.iaload, 1) := by decide +kernel
theorem dX6_lots_42 : decode cX6_lots 42 = .ok (.iload_n 1, 1) := by decide +kernel
theorem dX6_lots_43 : decode cX6_lots 43 = .ok (.iadd, 1) := by decide +kernel
theorem dX6_lots_44 : decode cX6_lots 44 = .ok (.bipush 40, 2) := by decide +kernel
theorem dX6_lots_46 : decode cX6_lots 46 = .ok (.if_icmp .le 6, 3) := by decide +kernel
theorem dX6_lots_49 : decode cX6_lots 49 = .ok (.bipush (-2), 2) := by decide +kernel
theorem dX6_lots_51 : decode cX6_lots 51 = .ok (.ireturn, 1) := by decide +kernel
theorem dX6_lots_52 : decode cX6_lots 52 = .ok (.iload_n 2, 1) := by decide +kernel
theorem dX6_lots_53 : decode cX6_lots 53 = .ok (.i2l, 1) := by decide +kernel
theorem dX6_lots_54 : decode cX6_lots 54 = .ok (.lstore_n 3, 1) := by decide +kernel
theorem dX6_lots_55 : decode cX6_lots 55 = .ok (.iconst 0, 1) := by decide +kernel
theorem dX6_lots_56 : decode cX6_lots 56 = .ok (.istore 5, 2) := by decide +kernel
theorem dX6_lots_58 : decode cX6_lots 58 = .ok (.iload 5, 2) := by decide +kernel
theorem dX6_lots_60 : decode cX6_lots 60 = .ok (.iload_n 1, 1) := by decide +kernel
theorem dX6_lots_61 : decode cX6_lots 61 = .ok (.if_icmp .ge 83, 3) := by decide +kernel
theorem dX6_lots_64 : decode cX6_lots 64 = .ok (.lload_n 3, 1) := by decide +kernel
theorem dX6_lots_65 : decode cX6_lots 65 = .ok (.ldc2_w 273, 3) := by decide +kernel
theorem dX6_lots_68 : decode cX6_lots 68 = .ok (.lmul, 1) := by decide +kernel
theorem dX6_lots_69 : decode cX6_lots 69 = .ok (.ldc2_w 275, 3) := by decide +kernel
theorem dX6_lots_72 : decode cX6_lots 72 = .ok (.lrem, 1) := by decide +kernel
theorem dX6_lots_73 : decode cX6_lots 73 = .ok (.lstore_n 3, 1) := by decide +kernel
theorem dX6_lots_74 : decode cX6_lots 74 = .ok (.lload_n 3, 1) := by decide +kernel
theorem dX6_lots_75 : decode cX6_lots 75 = .ok (.ldc2_w 277, 3) := by decide +kernel
theorem dX6_lots_78 : decode cX6_lots 78 = .ok (.ldiv, 1) := by decide +kernel
theorem dX6_lots_79 : decode cX6_lots 79 = .ok (.aload_n 0, 1) := by decide +kernel
theorem dX6_lots_80 : decode cX6_lots 80 = .ok (.getfield 136, 3) := by decide +kernel
theorem dX6_lots_83 : decode cX6_lots 83 = .ok (.i2l, 1) := by decide +kernel
theorem dX6_lots_84 : decode cX6_lots 84 = .ok (.lrem, 1) := by decide +kernel
theorem dX6_lots_85 : decode cX6_lots 85 = .ok (.l2i, 1) := by decide +kernel
theorem dX6_lots_86 : decode cX6_lots 86 = .ok (.istore 6, 2) := by decide +kernel
theorem dX6_lots_88 : decode cX6_lots 88 = .ok (.lload_n 3, 1) := by decide +kernel
theorem dX6_lots_89 : decode cX6_lots 89 = .ok (.ldc2_w 67, 3) := by decide +kernel
theorem dX6_lots_92 : decode cX6_lots 92 = .ok (.lrem, 1) := by decide +kernel
theorem dX6_lots_93 : decode cX6_lots 93 = .ok (.lconst 0, 1) := by decide +kernel
theorem dX6_lots_94 : decode cX6_lots 94 = .ok (.lcmp, 1) := by decide +kernel
theorem dX6_lots_95 : decode cX6_lots 95 = .ok (.ifCond .ne 16, 3) := by decide +kernel
theorem dX6_lots_98 : decode cX6_lots 98 = .ok (.aload_n 0, 1) := by decide +kernel
theorem dX6_lots_99 : decode cX6_lots 99 = .ok (.invokevirtual 164, 3) := by decide +kernel
theorem dX6_lots_102 : decode cX6_lots 102 = .ok (.aload_n 0, 1) := by decide +kernel
theorem dX6_lots_103 : decode cX6_lots 103 = .ok (.iconst 0, 1) := by decide +kernel
theorem dX6_lots_104 : decode cX6_lots 104 = .ok (.invokevirtual 176, 3) := by decide +kernel
theorem dX6_lots_107 : decode cX6_lots 107 = .ok (.pop, 1) := by decide +kernel
theorem dX6_lots_108 : decode cX6_lots 108 = .ok (.goto 30, 3) := by decide +kernel
theorem dX6_lots_111 : decode cX6_lots 111 = .ok (.aload_n 0, 1) := by decide +kernel
theorem dX6_lots_112 : decode cX6_lots 112 = .ok (.iconst 0, 1) := by decide +kernel
theorem dX6_lots_113 : decode cX6_lots 113 = .ok (.iload 6, 2) := by decide +kernel
theorem dX6_lots_115 : decode cX6_lots 115 = .ok (.invokevirtual 167, 3) := by decide +kernel
theorem dX6_lots_118 : decode cX6_lots 118 = .ok (.ifCond .eq 13, 3) := by decide +kernel
theorem dX6_lots_121 : decode cX6_lots 121 = .ok (.aload_n 0, 1) := by decide +kernel
theorem dX6_lots_122 : decode cX6_lots 122 = .ok (.iload 6, 2) := by decide +kernel
theorem dX6_lots_124 : decode cX6_lots 124 = .ok (.invokevirtual 173, 3) := by decide +kernel
theorem dX6_lots_127 : decode cX6_lots 127 = .ok (.pop, 1) := by decide +kernel
theorem dX6_lots_128 : decode cX6_lots 128 = .ok (.goto 10, 3) := by decide +kernel
theorem dX6_lots_131 : decode cX6_lots 131 = .ok (.aload_n 0, 1) := by decide +kernel
theorem dX6_lots_132 : decode cX6_lots 132 = .ok (.iload 6, 2) := by decide +kernel
theorem dX6_lots_134 : decode cX6_lots 134 = .ok (.invokevirtual 170, 3) := by decide +kernel
theorem dX6_lots_137 : decode cX6_lots 137 = .ok (.pop, 1) := by decide +kernel
theorem dX6_lots_138 : decode cX6_lots 138 = .ok (.iinc 5 1, 3) := by decide +kernel
theorem dX6_lots_141 : decode cX6_lots 141 = .ok (.goto (-83), 3) := by decide +kernel
theorem dX6_lots_144 : decode cX6_lots 144 = .ok (.aload_n 0, 1) := by decide +kernel
theorem dX6_lots_145 : decode cX6_lots 145 = .ok (.getfield 7, 3) := by decide +kernel
theorem dX6_lots_148 : decode cX6_lots 148 = .ok (.iconst 1, 1) := by decide +kernel
theorem dX6_lots_149 : decode cX6_lots 149 = .ok (.iaload, 1) := by decide +kernel
theorem dX6_lots_150 : decode cX6_lots 150 = .ok (.ireturn, 1) := by decide +kernel
def j_X6_lots (F : Nat) (a1 : Int32) (a2 : Int32) (st : sw_St) : Option (Int32 × sw_St) :=
bo (j_X6_in F ((a1 : Int32).toInt64) 1 20 st) (fun (r2 : Int32) =>
jn (
  some (((-1) : Int32), st)) (fun k3 =>
 (if r2 = 0 then (
  k3)
 else (
  bo (j_X6_in F ((a2 : Int32).toInt64) 1 2147483646 st) (fun (r7 : Int32) =>
  (if r7 = 0 then (
   k3)
  else (
   (if (st.1 63 1) = 0 then (
    some (((-4) : Int32), st))
   else (
    (if ((st.1 64 0) + a1) ≤ 40 then (
     nm ((a2 : Int32).toInt64) (fun (x12 : Int64) =>
     lz3 (fun f16 (x13 : Int64) (x14 : Int32) (s15 : sw_St) =>
      (if a1 ≤ x14 then (
       some ((s15.1 64 1 : Int32), s15))
      else (
       nm ((x13 * 48271) - (x13 * 48271) / 2147483647 * 2147483647) (fun (x20 : Int64) =>
       grd (¬ (((s15.1 63 1) : Int32).toInt64) = 0) (
       nm ((((x20 / 8) - (x20 / 8) / (((s15.1 63 1) : Int32).toInt64) * (((s15.1 63 1) : Int32).toInt64)) : Int64).toInt32) (fun (x22 : Int32) =>
       jn (fun (s23 : sw_St) => 
         nm (x14 + 1) (fun (x26 : Int32) =>
         f16 x20 x26 s23)) (fun k24 =>
        (if (lg_cmp (x20 - x20 / 3 * 3) 0) = 0 then (
         bd (j_X6_keepPast F s15) (fun (_ : Unit) (s38 : sw_St) =>
         bd (j_X6_pass F 0 s38) (fun (r40 : Int32) (s41 : sw_St) =>
         k24 s41)))
        else (
         bo (j_X6_isIn F 0 x22 s15) (fun (r29 : Int32) =>
         (if r29 = 0 then (
          bd (j_X6_doLet F x22 s15) (fun (r32 : Int32) (s33 : sw_St) =>
          k24 s33))
         else (
          bd (j_X6_doLeave F x22 s15) (fun (r35 : Int32) (s36 : sw_St) =>
          k24 s36))))))))))))) F x12 0 st))
    else (
     some (((-2) : Int32), st))))))))))))
set_option maxHeartbeats 4000000 in
set_option maxRecDepth 100000 in
theorem c_X6_lots (F : Nat) (a1 : Int32) (a2 : Int32) (st : sw_St) {r : Int32} {st1 : sw_St} (h : j_X6_lots F a1 a2 st = some (r, st1)) : sw_CI yX6_lots (.code yX6_lots cX6_lots 7 (some .int)) 6 (fun g => [.ref (g.1 63), .int a1, .int a2]) st r st1 := by
  refine sw_entI RX6 (fun g => [(0, .ref (g.1 63)), (1, .int a1), (2, .int a2)]) (by decide) rfl (fun _ => Nat.le_of_ble_eq_true rfl) (fun _ => rfl) ?_
  intro p l e s m args below meth c g X hr hlk
  unfold j_X6_lots at h
  refine sw_iload_n X 1 rfl rfl dX6_lots_0 ?_
  refine sw_i2l X dX6_lots_1 ?_
  refine sw_lconst X (v := 1) (by decide) dX6_lots_2 ?_
  refine sw_ldc2 X (v := 20) wl_X6_269 dX6_lots_3 ?_
  obtain ⟨r2, c1, h⟩ := bo_E h
  refine sw_callSI X (As := (fun g => [.long ((a1 : Int32).toInt64), .long 1, .long 20])) ws_X6_in (by omega) (c_X6_in F ((a1 : Int32).toInt64) 1 20 st c1) rfl rfl (Nat.le_of_ble_eq_true rfl) wm_X6_63 dX6_lots_6 ?_
  refine jn0_E (sw_V p l e 6 s m args below meth c g (sw_A g s.heap.size) (sw_QI below g args s r st1) 7 24 [] [] st) h (fun h => ?_) (fun k3 J4 h => ?_)
  · refine sw_iconst X (v := (-1)) (by decide) dX6_lots_24 ?_
    exact sw_iret X hr hlk dX6_lots_25 h
  · refine sw_if_eq X 24 (by decide) dX6_lots_9 (fun q5 => ?_) (fun q5 => ?_)
    · have h := ite_T h q5
      refine sw_sub [] rfl ?_
      exact J4  h
    · have h := ite_F h q5
      refine sw_iload_n X 2 rfl rfl dX6_lots_12 ?_
      refine sw_i2l X dX6_lots_13 ?_
      refine sw_lconst X (v := 1) (by decide) dX6_lots_14 ?_
      refine sw_ldc2 X (v := 2147483646) wl_X6_271 dX6_lots_15 ?_
      obtain ⟨r7, c6, h⟩ := bo_E h
      refine sw_callSI X (As := (fun g => [.long ((a2 : Int32).toInt64), .long 1, .long 2147483646])) ws_X6_in (by omega) (c_X6_in F ((a2 : Int32).toInt64) 1 2147483646 st c6) rfl rfl (Nat.le_of_ble_eq_true rfl) wm_X6_63 dX6_lots_18 ?_
      refine sw_if_ne X 26 (by decide) dX6_lots_21 (fun q8 => ?_) (fun q8 => ?_)
      · have h := ite_F h q8
        refine sw_aload_n X 0 rfl rfl dX6_lots_26 ?_
        refine sw_getI X sw_cl6 (show sw_kd 63 = 6 from rfl) (k := 1) rfl (by decide) wf_X6_136 dX6_lots_27 ?_
        refine sw_if_ne X 36 (by decide) dX6_lots_30 (fun q9 => ?_) (fun q9 => ?_)
        · have h := ite_F h q9
          refine sw_aload_n X 0 rfl rfl dX6_lots_36 ?_
          refine sw_getR X sw_cl6 (show sw_kd 63 = 6 from rfl) (k := 0) rfl (by decide) (o1 := 64) rfl wf_X6_7 dX6_lots_37 ?_
          refine sw_iconst X (v := 0) (by decide) dX6_lots_40 ?_
          refine sw_iald X (show sw_kd 64 = 8 from rfl) (n := 835) rfl (i := 0) (by unfold vp_in; decide) dX6_lots_41 ?_
          refine sw_iload_n X 1 rfl rfl dX6_lots_42 ?_
          refine sw_iadd X dX6_lots_43 ?_
          refine sw_bipush X (v := 40) (by decide) dX6_lots_44 ?_
          refine sw_icmp_le X 52 (by decide) dX6_lots_46 (fun q11 => ?_) (fun q11 => ?_)
          · have h := ite_T h q11
            refine sw_iload_n X 2 rfl rfl dX6_lots_52 ?_
            refine sw_i2l X dX6_lots_53 ?_
            refine sw_topl (fun x12 ex12 => ?_)
            have h := nm_E h ex12
            refine sw_lstore_n X [(3, .long x12), (0, .ref (g.1 63)), (1, .int a1), (2, .int a2)] rfl (by decide) rfl dX6_lots_54 ?_
            refine sw_iconst X (v := 0) (by decide) dX6_lots_55 ?_
            refine sw_istore X [(5, .int 0), (3, .long x12), (0, .ref (g.1 63)), (1, .int a1), (2, .int a2)] (by decide) rfl dX6_lots_56 ?_
            refine sw_sub [2, 3, 1, 0] rfl ?_
            refine lz3_E (fun (x13 : Int64) (x14 : Int32) (s15 : sw_St) => sw_V p l e 6 s m args below meth c g (sw_A g s.heap.size) (sw_QI below g args s r st1) 7 58 [(0, .ref (g.1 63)), (1, .int a1), (3, .long x13), (5, .int x14)] [] s15) h (fun f16 ih17 x13 x14 s15 h => ?_)
            refine sw_iload X 3 rfl dX6_lots_58 ?_
            refine sw_iload_n X 1 rfl rfl dX6_lots_60 ?_
            refine sw_icmp_ge X 144 (by decide) dX6_lots_61 (fun q18 => ?_) (fun q18 => ?_)
            · have h := ite_T h q18
              refine sw_aload_n X 0 rfl rfl dX6_lots_144 ?_
              refine sw_getR X sw_cl6 (show sw_kd 63 = 6 from rfl) (k := 0) rfl (by decide) (o1 := 64) rfl wf_X6_7 dX6_lots_145 ?_
              refine sw_iconst X (v := 1) (by decide) dX6_lots_148 ?_
              refine sw_iald X (show sw_kd 64 = 8 from rfl) (n := 835) rfl (i := 1) (by unfold vp_in; decide) dX6_lots_149 ?_
              exact sw_iret X hr hlk dX6_lots_150 h
            · have h := ite_F h q18
              refine sw_lload_n X 2 rfl rfl dX6_lots_64 ?_
              refine sw_ldc2 X (v := 48271) wl_X6_273 dX6_lots_65 ?_
              refine sw_lmul X dX6_lots_68 ?_
              refine sw_ldc2 X (v := 2147483647) wl_X6_275 dX6_lots_69 ?_
              refine sw_lrem X (by decide) dX6_lots_72 ?_
              refine sw_topl (fun x20 ex20 => ?_)
              have h := nm_E h ex20
              refine sw_lstore_n X [(3, .long x20), (0, .ref (g.1 63)), (1, .int a1), (5, .int x14)] rfl (by decide) rfl dX6_lots_73 ?_
              refine sw_lload_n X 0 rfl rfl dX6_lots_74 ?_
              refine sw_ldc2 X (v := 8) wl_X6_277 dX6_lots_75 ?_
              refine sw_ldiv X (by decide) dX6_lots_78 ?_
              refine sw_aload_n X 1 rfl rfl dX6_lots_79 ?_
              refine sw_getI X sw_cl6 (show sw_kd 63 = 6 from rfl) (k := 1) rfl (by decide) wf_X6_136 dX6_lots_80 ?_
              refine sw_i2l X dX6_lots_83 ?_
              obtain ⟨q21, h⟩ := grd_E h
              refine sw_lrem X q21 dX6_lots_84 ?_
              refine sw_l2i X dX6_lots_85 ?_
              refine sw_topi (fun x22 ex22 => ?_)
              have h := nm_E h ex22
              refine sw_istore X [(6, .int x22), (3, .long x20), (0, .ref (g.1 63)), (1, .int a1), (5, .int x14)] (by decide) rfl dX6_lots_86 ?_
              refine sw_lload_n X 1 rfl rfl dX6_lots_88 ?_
              refine sw_ldc2 X (v := 3) wl_X6_67 dX6_lots_89 ?_
              refine sw_lrem X (by decide) dX6_lots_92 ?_
              refine sw_lconst X (v := 0) (by decide) dX6_lots_93 ?_
              refine sw_lcmp X dX6_lots_94 ?_
              refine jn1_E (fun (s23 : sw_St) => sw_V p l e 6 s m args below meth c g (sw_A g s.heap.size) (sw_QI below g args s r st1) 7 138 [(0, .ref (g.1 63)), (1, .int a1), (3, .long x20), (5, .int x14)] [] s23) h (fun s23 h => ?_) (fun k24 J25 h => ?_)
              · obtain ⟨x26, ex26⟩ : ∃ y : Int32, y = x14 + 1 := ⟨_, rfl⟩
                have h := nm_E h ex26
                refine sw_iinc X 3 x26 [(5, .int x26), (0, .ref (g.1 63)), (1, .int a1), (3, .long x20)] rfl (by rw [ex26]; rfl) (by decide) rfl dX6_lots_138 ?_
                refine sw_goto X 58 (by decide) dX6_lots_141 ?_
                refine sw_sub [1, 2, 3, 0] rfl ?_
                exact ih17 _ _ _ h
              · refine sw_if_ne X 111 (by decide) dX6_lots_95 (fun q27 => ?_) (fun q27 => ?_)
                · have h := ite_F h q27
                  refine sw_aload_n X 2 rfl rfl dX6_lots_111 ?_
                  refine sw_iconst X (v := 0) (by decide) dX6_lots_112 ?_
                  refine sw_iload X 0 rfl dX6_lots_113 ?_
                  obtain ⟨r29, c28, h⟩ := bo_E h
                  refine sw_callVI X (o := 63) (As := (fun g => [.int 0, .int x22])) sw_cl6 (show sw_kd 63 = 6 from rfl) ws_X6_isIn (by omega) (c_X6_isIn F 0 x22 s15 c28) rfl rfl (Nat.le_of_ble_eq_true rfl) wm_X6_167 dX6_lots_115 ?_
                  refine sw_if_eq X 131 (by decide) dX6_lots_118 (fun q30 => ?_) (fun q30 => ?_)
                  · have h := ite_T h q30
                    refine sw_aload_n X 2 rfl rfl dX6_lots_131 ?_
                    refine sw_iload X 0 rfl dX6_lots_132 ?_
                    obtain ⟨r32, s33, c31, h⟩ := bd_E h
                    refine sw_callVI X (o := 63) (As := (fun g => [.int x22])) sw_cl6 (show sw_kd 63 = 6 from rfl) ws_X6_doLet (by omega) (c_X6_doLet F x22 s15 c31) rfl rfl (Nat.le_of_ble_eq_true rfl) wm_X6_170 dX6_lots_134 ?_
                    refine sw_pop X rfl dX6_lots_137 ?_
                    refine sw_sub [2, 3, 1, 4] rfl ?_
                    exact J25 _ h
                  · have h := ite_F h q30
                    refine sw_aload_n X 2 rfl rfl dX6_lots_121 ?_
                    refine sw_iload X 0 rfl dX6_lots_122 ?_
                    obtain ⟨r35, s36, c34, h⟩ := bd_E h
                    refine sw_callVI X (o := 63) (As := (fun g => [.int x22])) sw_cl6 (show sw_kd 63 = 6 from rfl) ws_X6_doLeave (by omega) (c_X6_doLeave F x22 s15 c34) rfl rfl (Nat.le_of_ble_eq_true rfl) wm_X6_173 dX6_lots_124 ?_
                    refine sw_pop X rfl dX6_lots_127 ?_
                    refine sw_goto X 138 (by decide) dX6_lots_128 ?_
                    refine sw_sub [2, 3, 1, 4] rfl ?_
                    exact J25 _ h
                · have h := ite_T h q27
                  refine sw_aload_n X 2 rfl rfl dX6_lots_98 ?_
                  obtain ⟨u42, s38, c37, h⟩ := bd_E h
                  refine sw_callVV X (o := 63) (As := (fun g => [])) sw_cl6 (show sw_kd 63 = 6 from rfl) ws_X6_keepPast (by omega) (c_X6_keepPast F s15 c37) rfl rfl (Nat.le_of_ble_eq_true rfl) wm_X6_164 dX6_lots_99 ?_
                  refine sw_aload_n X 2 rfl rfl dX6_lots_102 ?_
                  refine sw_iconst X (v := 0) (by decide) dX6_lots_103 ?_
                  obtain ⟨r40, s41, c39, h⟩ := bd_E h
                  refine sw_callVI X (o := 63) (As := (fun g => [.int 0])) sw_cl6 (show sw_kd 63 = 6 from rfl) ws_X6_pass (by omega) (c_X6_pass F 0 s38 c39) rfl rfl (Nat.le_of_ble_eq_true rfl) wm_X6_176 dX6_lots_104 ?_
                  refine sw_pop X rfl dX6_lots_107 ?_
                  refine sw_goto X 138 (by decide) dX6_lots_108 ?_
                  refine sw_sub [2, 3, 1, 4] rfl ?_
                  exact J25 _ h
          · have h := ite_F h q11
            refine sw_bipush X (v := (-2)) (by decide) dX6_lots_49 ?_
            exact sw_iret X hr hlk dX6_lots_51 h
        · have h := ite_T h q9
          refine sw_bipush X (v := (-4)) (by decide) dX6_lots_33 ?_
          exact sw_iret X hr hlk dX6_lots_35 h
      · have h := ite_T h q8
        refine sw_sub [] rfl ?_
        exact J4  h
theorem dX6_asked_0 : decode cX6_asked 0 = .ok (.aload_n 0, 1) := by decide +kernel
theorem dX6_asked_1 : decode cX6_asked 1 = .ok (.getfield 58, 3) := by decide +kernel
theorem dX6_asked_4 : decode cX6_asked 4 = .ok (.ireturn, 1) := by decide +kernel
def j_X6_asked (F : Nat) (st : sw_St) : Option Int32 :=
some (st.1 63 9 : Int32)
set_option maxHeartbeats 4000000 in
set_option maxRecDepth 100000 in
theorem c_X6_asked (F : Nat) (st : sw_St) {r : Int32} (h : j_X6_asked F  st = some r) : sw_CI yX6_asked (.code yX6_asked cX6_asked 1 (some .int)) 1 (fun g => [.ref (g.1 63)]) st r st := by
  refine sw_entI RX6 (fun g => [(0, .ref (g.1 63))]) (by decide) rfl (fun _ => Nat.le_of_ble_eq_true rfl) (fun _ => rfl) ?_
  intro p l e s m args below meth c g X hr hlk
  unfold j_X6_asked at h
  refine sw_aload_n X 0 rfl rfl dX6_asked_0 ?_
  refine sw_getI X sw_cl6 (show sw_kd 63 = 6 from rfl) (k := 9) rfl (by decide) wf_X6_58 dX6_asked_1 ?_
  exact sw_iret X hr hlk dX6_asked_4 (by cases h; rfl)
theorem dX6_upper_0 : decode cX6_upper 0 = .ok (.aload_n 0, 1) := by decide +kernel
theorem dX6_upper_1 : decode cX6_upper 1 = .ok (.getfield 229, 3) := by decide +kernel
theorem dX6_upper_4 : decode cX6_upper 4 = .ok (.lreturn, 1) := by decide +kernel
def j_X6_upper (F : Nat) (st : sw_St) : Option Int64 :=
some (st.2.1 63 10 : Int64)
set_option maxHeartbeats 4000000 in
set_option maxRecDepth 100000 in
theorem c_X6_upper (F : Nat) (st : sw_St) {r : Int64} (h : j_X6_upper F  st = some r) : sw_CL yX6_upper (.code yX6_upper cX6_upper 1 (some .long)) 1 (fun g => [.ref (g.1 63)]) st r st := by
  refine sw_entL RX6 (fun g => [(0, .ref (g.1 63))]) (by decide) rfl (fun _ => Nat.le_of_ble_eq_true rfl) (fun _ => rfl) ?_
  intro p l e s m args below meth c g X hr hlk
  unfold j_X6_upper at h
  refine sw_aload_n X 0 rfl rfl dX6_upper_0 ?_
  refine sw_getL X sw_cl6 (show sw_kd 63 = 6 from rfl) (k := 10) rfl (by decide) wf_X6_229 dX6_upper_1 ?_
  exact sw_lret X hr hlk dX6_upper_4 (by cases h; rfl)
theorem dX6_lower_0 : decode cX6_lower 0 = .ok (.aload_n 0, 1) := by decide +kernel
theorem dX6_lower_1 : decode cX6_lower 1 = .ok (.getfield 34, 3) := by decide +kernel
theorem dX6_lower_4 : decode cX6_lower 4 = .ok (.lreturn, 1) := by decide +kernel
def j_X6_lower (F : Nat) (st : sw_St) : Option Int64 :=
some (st.2.1 63 11 : Int64)
set_option maxHeartbeats 4000000 in
set_option maxRecDepth 100000 in
theorem c_X6_lower (F : Nat) (st : sw_St) {r : Int64} (h : j_X6_lower F  st = some r) : sw_CL yX6_lower (.code yX6_lower cX6_lower 1 (some .long)) 1 (fun g => [.ref (g.1 63)]) st r st := by
  refine sw_entL RX6 (fun g => [(0, .ref (g.1 63))]) (by decide) rfl (fun _ => Nat.le_of_ble_eq_true rfl) (fun _ => rfl) ?_
  intro p l e s m args below meth c g X hr hlk
  unfold j_X6_lower at h
  refine sw_aload_n X 0 rfl rfl dX6_lower_0 ?_
  refine sw_getL X sw_cl6 (show sw_kd 63 = 6 from rfl) (k := 11) rfl (by decide) wf_X6_34 dX6_lower_1 ?_
  exact sw_lret X hr hlk dX6_lower_4 (by cases h; rfl)
theorem dX6_strongs_0 : decode cX6_strongs 0 = .ok (.iconst 0, 1) := by decide +kernel
theorem dX6_strongs_1 : decode cX6_strongs 1 = .ok (.istore_n 1, 1) := by decide +kernel
theorem dX6_strongs_2 : decode cX6_strongs 2 = .ok (.iconst 0, 1) := by decide +kernel
theorem dX6_strongs_3 : decode cX6_strongs 3 = .ok (.istore_n 2, 1) := by decide +kernel
theorem dX6_strongs_4 : decode cX6_strongs 4 = .ok (.iload_n 2, 1) := by decide +kernel
theorem dX6_strongs_5 : decode cX6_strongs 5 = .ok (.aload_n 0, 1) := by decide +kernel
theorem dX6_strongs_6 : decode cX6_strongs 6 = .ok (.getfield 136, 3) := by decide +kernel
theorem dX6_strongs_9 : decode cX6_strongs 9 = .ok (.if_icmp .ge 26, 3) := by decide +kernel
theorem dX6_strongs_12 : decode cX6_strongs 12 = .ok (.iload_n 1, 1) := by decide +kernel
theorem dX6_strongs_13 : decode cX6_strongs 13 = .ok (.aload_n 0, 1) := by decide +kernel
theorem dX6_strongs_14 : decode cX6_strongs 14 = .ok (.iload_n 2, 1) := by decide +kernel
theorem dX6_strongs_15 : decode cX6_strongs 15 = .ok (.iconst 1, 1) := by decide +kernel
theorem dX6_strongs_16 : decode cX6_strongs 16 = .ok (.invokevirtual 161, 3) := by decide +kernel
theorem dX6_strongs_19 : decode cX6_strongs 19 = .ok (.ifCond .eq 7, 3) := by decide +kernel
theorem dX6_strongs_22 : decode cX6_strongs 22 = .ok (.iconst 1, 1) := by decide +kernel
theorem dX6_strongs_23 : decode cX6_strongs 23 = .ok (.goto 4, 3) := by decide +kernel
theorem dX6_strongs_26 : decode cX6_strongs 26 = .ok (.iconst 0, 1) := by decide +kernel
theorem dX6_strongs_27 : decode cX6_strongs 27 = .ok (.iadd, 1) := by decide +kernel
theorem dX6_strongs_28 : decode cX6_strongs 28 = .ok (.istore_n 1, 1) := by decide +kernel
theorem dX6_strongs_29 : decode cX6_strongs 29 = .ok (.iinc 2 1, 3) := by decide +kernel
theorem dX6_strongs_32 : decode cX6_strongs 32 = .ok (.goto (-28), 3) := by decide +kernel
theorem dX6_strongs_35 : decode cX6_strongs 35 = .ok (.iload_n 1, 1) := by decide +kernel
theorem dX6_strongs_36 : decode cX6_strongs 36 = .ok (.ireturn, 1) := by decide +kernel
def j_X6_strongs (F : Nat) (st : sw_St) : Option Int32 :=
lz2 (fun f3 (x1 : Int32) (x2 : Int32) =>
 (if (st.1 63 1) ≤ x2 then (
  some (x1 : Int32))
 else (
  bo (j_X6_isOf F x2 1 st) (fun (r7 : Int32) =>
  jn (fun (x8 : Int32) => 
    nm (x1 + x8) (fun (x11 : Int32) =>
    nm (x2 + 1) (fun (x12 : Int32) =>
    f3 x11 x12))) (fun k9 =>
   (if r7 = 0 then (
    k9 0)
   else (
    k9 1))))))) F 0 0
set_option maxHeartbeats 4000000 in
set_option maxRecDepth 100000 in
theorem c_X6_strongs (F : Nat) (st : sw_St) {r : Int32} (h : j_X6_strongs F  st = some r) : sw_CI yX6_strongs (.code yX6_strongs cX6_strongs 3 (some .int)) 2 (fun g => [.ref (g.1 63)]) st r st := by
  refine sw_entI RX6 (fun g => [(0, .ref (g.1 63))]) (by decide) rfl (fun _ => Nat.le_of_ble_eq_true rfl) (fun _ => rfl) ?_
  intro p l e s m args below meth c g X hr hlk
  unfold j_X6_strongs at h
  refine sw_iconst X (v := 0) (by decide) dX6_strongs_0 ?_
  refine sw_istore_n X [(1, .int 0), (0, .ref (g.1 63))] rfl (by decide) rfl dX6_strongs_1 ?_
  refine sw_iconst X (v := 0) (by decide) dX6_strongs_2 ?_
  refine sw_istore_n X [(2, .int 0), (1, .int 0), (0, .ref (g.1 63))] rfl (by decide) rfl dX6_strongs_3 ?_
  refine sw_sub [2, 1, 0] rfl ?_
  refine lz2_E (fun (x1 : Int32) (x2 : Int32) => sw_V p l e 2 s m args below meth c g (sw_A g s.heap.size) (sw_QI below g args s r st) 3 4 [(0, .ref (g.1 63)), (1, .int x1), (2, .int x2)] [] st) h (fun f3 ih4 x1 x2 h => ?_)
  refine sw_iload_n X 2 rfl rfl dX6_strongs_4 ?_
  refine sw_aload_n X 0 rfl rfl dX6_strongs_5 ?_
  refine sw_getI X sw_cl6 (show sw_kd 63 = 6 from rfl) (k := 1) rfl (by decide) wf_X6_136 dX6_strongs_6 ?_
  refine sw_icmp_ge X 35 (by decide) dX6_strongs_9 (fun q5 => ?_) (fun q5 => ?_)
  · have h := ite_T h q5
    refine sw_iload_n X 1 rfl rfl dX6_strongs_35 ?_
    exact sw_iret X hr hlk dX6_strongs_36 (by cases h; rfl)
  · have h := ite_F h q5
    refine sw_iload_n X 1 rfl rfl dX6_strongs_12 ?_
    refine sw_aload_n X 0 rfl rfl dX6_strongs_13 ?_
    refine sw_iload_n X 2 rfl rfl dX6_strongs_14 ?_
    refine sw_iconst X (v := 1) (by decide) dX6_strongs_15 ?_
    obtain ⟨r7, c6, h⟩ := bo_E h
    refine sw_callVI X (o := 63) (As := (fun g => [.int x2, .int 1])) sw_cl6 (show sw_kd 63 = 6 from rfl) ws_X6_isOf (by omega) (c_X6_isOf F x2 1 st c6) rfl rfl (Nat.le_of_ble_eq_true rfl) wm_X6_161 dX6_strongs_16 ?_
    refine jn1_E (fun (x8 : Int32) => sw_V p l e 2 s m args below meth c g (sw_A g s.heap.size) (sw_QI below g args s r st) 3 27 [(0, .ref (g.1 63)), (2, .int x2)] [.int x8, .int x1] st) h (fun x8 h => ?_) (fun k9 J10 h => ?_)
    · refine sw_iadd X dX6_strongs_27 ?_
      refine sw_topi (fun x11 ex11 => ?_)
      have h := nm_E h ex11
      refine sw_istore_n X [(1, .int x11), (0, .ref (g.1 63)), (2, .int x2)] rfl (by decide) rfl dX6_strongs_28 ?_
      obtain ⟨x12, ex12⟩ : ∃ y : Int32, y = x2 + 1 := ⟨_, rfl⟩
      have h := nm_E h ex12
      refine sw_iinc X 2 x12 [(2, .int x12), (1, .int x11), (0, .ref (g.1 63))] rfl (by rw [ex12]; rfl) (by decide) rfl dX6_strongs_29 ?_
      refine sw_goto X 4 (by decide) dX6_strongs_32 ?_
      refine sw_sub [2, 1, 0] rfl ?_
      exact ih4 _ _ h
    · refine sw_if_eq X 26 (by decide) dX6_strongs_19 (fun q13 => ?_) (fun q13 => ?_)
      · have h := ite_T h q13
        refine sw_iconst X (v := 0) (by decide) dX6_strongs_26 ?_
        refine sw_sub [0, 2] rfl ?_
        exact J10 _ h
      · have h := ite_F h q13
        refine sw_iconst X (v := 1) (by decide) dX6_strongs_22 ?_
        refine sw_goto X 27 (by decide) dX6_strongs_23 ?_
        refine sw_sub [0, 2] rfl ?_
        exact J10 _ h
theorem dX6_thereOf_0 : decode cX6_thereOf 0 = .ok (.iconst 0, 1) := by decide +kernel
theorem dX6_thereOf_1 : decode cX6_thereOf 1 = .ok (.istore_n 2, 1) := by decide +kernel
theorem dX6_thereOf_2 : decode cX6_thereOf 2 = .ok (.iconst 0, 1) := by decide +kernel
theorem dX6_thereOf_3 : decode cX6_thereOf 3 = .ok (.istore_n 3, 1) := by decide +kernel
theorem dX6_thereOf_4 : decode cX6_thereOf 4 = .ok (.iload_n 3, 1) := by decide +kernel
theorem dX6_thereOf_5 : decode cX6_thereOf 5 = .ok (.bipush 6, 2) := by decide +kernel
theorem dX6_thereOf_7 : decode cX6_thereOf 7 = .ok (.if_icmp .ge 90, 3) := by decide +kernel
theorem dX6_thereOf_10 : decode cX6_thereOf 10 = .ok (.iload_n 2, 1) := by decide +kernel
theorem dX6_thereOf_11 : decode cX6_thereOf 11 = .ok (.iload_n 1, 1) := by decide +kernel
theorem dX6_thereOf_12 : decode cX6_thereOf 12 = .ok (.bipush 8, 2) := by decide +kernel
theorem dX6_thereOf_14 : decode cX6_thereOf 14 = .ok (.if_icmp .ne 20, 3) := by decide +kernel
theorem dX6_thereOf_17 : decode cX6_thereOf 17 = .ok (.aload_n 0, 1) := by decide +kernel
theorem dX6_thereOf_18 : decode cX6_thereOf 18 = .ok (.getfield 22, 3) := by decide +kernel
theorem dX6_thereOf_21 : decode cX6_thereOf 21 = .ok (.iload_n 3, 1) := by decide +kernel
theorem dX6_thereOf_22 : decode cX6_thereOf 22 = .ok (.iaload, 1) := by decide +kernel
theorem dX6_thereOf_23 : decode cX6_thereOf 23 = .ok (.ifCond .ge 7, 3) := by decide +kernel
theorem dX6_thereOf_26 : decode cX6_thereOf 26 = .ok (.iconst 0, 1) := by decide +kernel
theorem dX6_thereOf_27 : decode cX6_thereOf 27 = .ok (.goto 62, 3) := by decide +kernel
theorem dX6_thereOf_30 : decode cX6_thereOf 30 = .ok (.iconst 1, 1) := by decide +kernel
theorem dX6_thereOf_31 : decode cX6_thereOf 31 = .ok (.goto 58, 3) := by decide +kernel
theorem dX6_thereOf_34 : decode cX6_thereOf 34 = .ok (.iload_n 1, 1) := by decide +kernel
theorem dX6_thereOf_35 : decode cX6_thereOf 35 = .ok (.bipush 9, 2) := by decide +kernel
theorem dX6_thereOf_37 : decode cX6_thereOf 37 = .ok (.if_icmp .ne 25, 3) := by decide +kernel
theorem dX6_thereOf_40 : decode cX6_thereOf 40 = .ok (.iload_n 3, 1) := by decide +kernel
theorem dX6_thereOf_41 : decode cX6_thereOf 41 = .ok (.iconst 4, 1) := by decide +kernel
theorem dX6_thereOf_42 : decode cX6_thereOf 42 = .ok (.if_icmp .ge 16, 3) := by decide +kernel
theorem dX6_thereOf_45 : decode cX6_thereOf 45 = .ok (.aload_n 0, 1) := by decide +kernel
theorem dX6_thereOf_46 : decode cX6_thereOf 46 = .ok (.getfield 28, 3) := by decide +kernel
theorem dX6_thereOf_49 : decode cX6_thereOf 49 = .ok (.iload_n 3, 1) := by decide +kernel
theorem dX6_thereOf_50 : decode cX6_thereOf 50 = .ok (.iaload, 1) := by decide +kernel
theorem dX6_thereOf_51 : decode cX6_thereOf 51 = .ok (.ifCond .lt 7, 3) := by decide +kernel
theorem dX6_thereOf_54 : decode cX6_thereOf 54 = .ok (.iconst 1, 1) := by decide +kernel
theorem dX6_thereOf_55 : decode cX6_thereOf 55 = .ok (.goto 34, 3) := by decide +kernel
theorem dX6_thereOf_58 : decode cX6_thereOf 58 = .ok (.iconst 0, 1) := by decide +kernel
theorem dX6_thereOf_59 : decode cX6_thereOf 59 = .ok (.goto 30, 3) := by decide +kernel
theorem dX6_thereOf_62 : decode cX6_thereOf 62 = .ok (.iload_n 3, 1) := by decide +kernel
theorem dX6_thereOf_63 : decode cX6_thereOf 63 = .ok (.iconst 3, 1) := by decide +kernel
theorem dX6_thereOf_64 : decode cX6_thereOf 64 = .ok (.if_icmp .ge 24, 3) := by decide +kernel
theorem dX6_thereOf_67 : decode cX6_thereOf 67 = .ok (.aload_n 0, 1) := by decide +kernel
theorem dX6_thereOf_68 : decode cX6_thereOf 68 = .ok (.getfield 7, 3) := by decide +kernel
theorem dX6_thereOf_71 : decode cX6_thereOf 71 = .ok (.sipush 207, 3) := by decide +kernel
theorem dX6_thereOf_74 : decode cX6_thereOf 74 = .ok (.iconst 1, 1) := by decide +kernel
theorem dX6_thereOf_75 : decode cX6_thereOf 75 = .ok (.iload_n 3, 1) := by decide +kernel
theorem dX6_thereOf_76 : decode cX6_thereOf 76 = .ok (.iadd, 1) := by decide +kernel
theorem dX6_thereOf_77 : decode cX6_thereOf 77 = .ok (.imul, 1) := by decide +kernel
theorem dX6_thereOf_78 : decode cX6_thereOf 78 = .ok (.iconst 0, 1) := by decide +kernel
theorem dX6_thereOf_79 : decode cX6_thereOf 79 = .ok (.iadd, 1) := by decide +kernel
theorem dX6_thereOf_80 : decode cX6_thereOf 80 = .ok (.iaload, 1) := by decide +kernel
theorem dX6_thereOf_81 : decode cX6_thereOf 81 = .ok (.ifCond .lt 7, 3) := by decide +kernel
theorem dX6_thereOf_84 : decode cX6_thereOf 84 = .ok (.iconst 1, 1) := by decide +kernel
theorem dX6_thereOf_85 : decode cX6_thereOf 85 = .ok (.goto 4, 3) := by decide +kernel
theorem dX6_thereOf_88 : decode cX6_thereOf 88 = .ok (.iconst 0, 1) := by decide +kernel
theorem dX6_thereOf_89 : decode cX6_thereOf 89 = .ok (.iadd, 1) := by decide +kernel
theorem dX6_thereOf_90 : decode cX6_thereOf 90 = .ok (.istore_n 2, 1) := by decide +kernel
theorem dX6_thereOf_91 : decode cX6_thereOf 91 = .ok (.iinc 3 1, 3) := by decide +kernel
theorem dX6_thereOf_94 : decode cX6_thereOf 94 = .ok (.goto (-90), 3) := by decide +kernel
theorem dX6_thereOf_97 : decode cX6_thereOf 97 = .ok (.iload_n 2, 1) := by decide +kernel
theorem dX6_thereOf_98 : decode cX6_thereOf 98 = .ok (.ireturn, 1) := by decide +kernel
def j_X6_thereOf (F : Nat) (a1 : Int32) (st : sw_St) : Option Int32 :=
lz2 (fun f3 (x1 : Int32) (x2 : Int32) =>
 (if 6 ≤ x2 then (
  some (x1 : Int32))
 else (
  jn (fun (x6 : Int32) => 
    nm (x1 + x6) (fun (x9 : Int32) =>
    nm (x2 + 1) (fun (x10 : Int32) =>
    f3 x9 x10))) (fun k7 =>
   (if a1 = 8 then (
    bnd x2 6 (
    (if 0 ≤ (st.1 68 (x2 : Int32).toNatClampNeg) then (
     k7 1)
    else (
     k7 0))))
   else (
    (if a1 = 9 then (
     jn (
       k7 0) (fun k18 =>
      (if 4 ≤ x2 then (
       k18)
      else (
       bnd x2 4 (
       (if (st.1 70 (x2 : Int32).toNatClampNeg) < 0 then (
        k18)
       else (
        k7 1)))))))
    else (
     jn (
       k7 0) (fun k13 =>
      (if 3 ≤ x2 then (
       k13)
      else (
       bnd ((207 * (1 + x2)) + 0) 835 (
       (if (st.1 64 (((207 * (1 + x2)) + 0) : Int32).toNatClampNeg) < 0 then (
        k13)
       else (
        k7 1)))))))))))))) F 0 0
set_option maxHeartbeats 4000000 in
set_option maxRecDepth 100000 in
theorem c_X6_thereOf (F : Nat) (a1 : Int32) (st : sw_St) {r : Int32} (h : j_X6_thereOf F a1 st = some r) : sw_CI yX6_thereOf (.code yX6_thereOf cX6_thereOf 4 (some .int)) 1 (fun g => [.ref (g.1 63), .int a1]) st r st := by
  refine sw_entI RX6 (fun g => [(0, .ref (g.1 63)), (1, .int a1)]) (by decide) rfl (fun _ => Nat.le_of_ble_eq_true rfl) (fun _ => rfl) ?_
  intro p l e s m args below meth c g X hr hlk
  unfold j_X6_thereOf at h
  refine sw_iconst X (v := 0) (by decide) dX6_thereOf_0 ?_
  refine sw_istore_n X [(2, .int 0), (0, .ref (g.1 63)), (1, .int a1)] rfl (by decide) rfl dX6_thereOf_1 ?_
  refine sw_iconst X (v := 0) (by decide) dX6_thereOf_2 ?_
  refine sw_istore_n X [(3, .int 0), (2, .int 0), (0, .ref (g.1 63)), (1, .int a1)] rfl (by decide) rfl dX6_thereOf_3 ?_
  refine sw_sub [2, 3, 1, 0] rfl ?_
  refine lz2_E (fun (x1 : Int32) (x2 : Int32) => sw_V p l e 1 s m args below meth c g (sw_A g s.heap.size) (sw_QI below g args s r st) 4 4 [(0, .ref (g.1 63)), (1, .int a1), (2, .int x1), (3, .int x2)] [] st) h (fun f3 ih4 x1 x2 h => ?_)
  refine sw_iload_n X 3 rfl rfl dX6_thereOf_4 ?_
  refine sw_bipush X (v := 6) (by decide) dX6_thereOf_5 ?_
  refine sw_icmp_ge X 97 (by decide) dX6_thereOf_7 (fun q5 => ?_) (fun q5 => ?_)
  · have h := ite_T h q5
    refine sw_iload_n X 2 rfl rfl dX6_thereOf_97 ?_
    exact sw_iret X hr hlk dX6_thereOf_98 (by cases h; rfl)
  · have h := ite_F h q5
    refine sw_iload_n X 2 rfl rfl dX6_thereOf_10 ?_
    refine sw_iload_n X 1 rfl rfl dX6_thereOf_11 ?_
    refine sw_bipush X (v := 8) (by decide) dX6_thereOf_12 ?_
    refine jn1_E (fun (x6 : Int32) => sw_V p l e 1 s m args below meth c g (sw_A g s.heap.size) (sw_QI below g args s r st) 4 89 [(0, .ref (g.1 63)), (1, .int a1), (3, .int x2)] [.int x6, .int x1] st) h (fun x6 h => ?_) (fun k7 J8 h => ?_)
    · refine sw_iadd X dX6_thereOf_89 ?_
      refine sw_topi (fun x9 ex9 => ?_)
      have h := nm_E h ex9
      refine sw_istore_n X [(2, .int x9), (0, .ref (g.1 63)), (1, .int a1), (3, .int x2)] rfl (by decide) rfl dX6_thereOf_90 ?_
      obtain ⟨x10, ex10⟩ : ∃ y : Int32, y = x2 + 1 := ⟨_, rfl⟩
      have h := nm_E h ex10
      refine sw_iinc X 3 x10 [(3, .int x10), (2, .int x9), (0, .ref (g.1 63)), (1, .int a1)] rfl (by rw [ex10]; rfl) (by decide) rfl dX6_thereOf_91 ?_
      refine sw_goto X 4 (by decide) dX6_thereOf_94 ?_
      refine sw_sub [2, 3, 1, 0] rfl ?_
      exact ih4 _ _ h
    · refine sw_icmp_ne X 34 (by decide) dX6_thereOf_14 (fun q11 => ?_) (fun q11 => ?_)
      · have h := ite_F h q11
        refine sw_iload_n X 1 rfl rfl dX6_thereOf_34 ?_
        refine sw_bipush X (v := 9) (by decide) dX6_thereOf_35 ?_
        refine sw_icmp_ne X 62 (by decide) dX6_thereOf_37 (fun q12 => ?_) (fun q12 => ?_)
        · have h := ite_F h q12
          refine sw_iload_n X 3 rfl rfl dX6_thereOf_62 ?_
          refine sw_iconst X (v := 3) (by decide) dX6_thereOf_63 ?_
          refine jn0_E (sw_V p l e 1 s m args below meth c g (sw_A g s.heap.size) (sw_QI below g args s r st) 4 88 [(0, .ref (g.1 63)), (1, .int a1), (3, .int x2)] [.int x1] st) h (fun h => ?_) (fun k13 J14 h => ?_)
          · refine sw_iconst X (v := 0) (by decide) dX6_thereOf_88 ?_
            exact J8 _ h
          · refine sw_icmp_ge X 88 (by decide) dX6_thereOf_64 (fun q15 => ?_) (fun q15 => ?_)
            · have h := ite_T h q15
              refine sw_sub [0, 1, 3] rfl ?_
              exact J14  h
            · have h := ite_F h q15
              refine sw_aload_n X 0 rfl rfl dX6_thereOf_67 ?_
              refine sw_getR X sw_cl6 (show sw_kd 63 = 6 from rfl) (k := 0) rfl (by decide) (o1 := 64) rfl wf_X6_7 dX6_thereOf_68 ?_
              refine sw_sipush X (v := 207) (by decide) dX6_thereOf_71 ?_
              refine sw_iconst X (v := 1) (by decide) dX6_thereOf_74 ?_
              refine sw_iload_n X 3 rfl rfl dX6_thereOf_75 ?_
              refine sw_iadd X dX6_thereOf_76 ?_
              refine sw_imul X dX6_thereOf_77 ?_
              refine sw_iconst X (v := 0) (by decide) dX6_thereOf_78 ?_
              refine sw_iadd X dX6_thereOf_79 ?_
              obtain ⟨q16, h⟩ := bnd_E h
              refine sw_iald X (show sw_kd 64 = 8 from rfl) (n := 835) rfl q16 dX6_thereOf_80 ?_
              refine sw_if_lt X 88 (by decide) dX6_thereOf_81 (fun q17 => ?_) (fun q17 => ?_)
              · have h := ite_T h q17
                refine sw_sub [0, 1, 3] rfl ?_
                exact J14  h
              · have h := ite_F h q17
                refine sw_iconst X (v := 1) (by decide) dX6_thereOf_84 ?_
                refine sw_goto X 89 (by decide) dX6_thereOf_85 ?_
                refine sw_sub [0, 1, 3] rfl ?_
                exact J8 _ h
        · have h := ite_T h q12
          refine sw_iload_n X 3 rfl rfl dX6_thereOf_40 ?_
          refine sw_iconst X (v := 4) (by decide) dX6_thereOf_41 ?_
          refine jn0_E (sw_V p l e 1 s m args below meth c g (sw_A g s.heap.size) (sw_QI below g args s r st) 4 58 [(0, .ref (g.1 63)), (1, .int a1), (3, .int x2)] [.int x1] st) h (fun h => ?_) (fun k18 J19 h => ?_)
          · refine sw_iconst X (v := 0) (by decide) dX6_thereOf_58 ?_
            refine sw_goto X 89 (by decide) dX6_thereOf_59 ?_
            exact J8 _ h
          · refine sw_icmp_ge X 58 (by decide) dX6_thereOf_42 (fun q20 => ?_) (fun q20 => ?_)
            · have h := ite_T h q20
              refine sw_sub [0, 1, 3] rfl ?_
              exact J19  h
            · have h := ite_F h q20
              refine sw_aload_n X 0 rfl rfl dX6_thereOf_45 ?_
              refine sw_getR X sw_cl6 (show sw_kd 63 = 6 from rfl) (k := 7) rfl (by decide) (o1 := 70) rfl wf_X6_28 dX6_thereOf_46 ?_
              refine sw_iload_n X 3 rfl rfl dX6_thereOf_49 ?_
              obtain ⟨q21, h⟩ := bnd_E h
              refine sw_iald X (show sw_kd 70 = 8 from rfl) (n := 4) rfl q21 dX6_thereOf_50 ?_
              refine sw_if_lt X 58 (by decide) dX6_thereOf_51 (fun q22 => ?_) (fun q22 => ?_)
              · have h := ite_T h q22
                refine sw_sub [0, 1, 3] rfl ?_
                exact J19  h
              · have h := ite_F h q22
                refine sw_iconst X (v := 1) (by decide) dX6_thereOf_54 ?_
                refine sw_goto X 89 (by decide) dX6_thereOf_55 ?_
                refine sw_sub [0, 1, 3] rfl ?_
                exact J8 _ h
      · have h := ite_T h q11
        refine sw_aload_n X 0 rfl rfl dX6_thereOf_17 ?_
        refine sw_getR X sw_cl6 (show sw_kd 63 = 6 from rfl) (k := 5) rfl (by decide) (o1 := 68) rfl wf_X6_22 dX6_thereOf_18 ?_
        refine sw_iload_n X 3 rfl rfl dX6_thereOf_21 ?_
        obtain ⟨q23, h⟩ := bnd_E h
        refine sw_iald X (show sw_kd 68 = 8 from rfl) (n := 6) rfl q23 dX6_thereOf_22 ?_
        refine sw_if_ge X 30 (by decide) dX6_thereOf_23 (fun q24 => ?_) (fun q24 => ?_)
        · have h := ite_T h q24
          refine sw_iconst X (v := 1) (by decide) dX6_thereOf_30 ?_
          refine sw_goto X 89 (by decide) dX6_thereOf_31 ?_
          refine sw_sub [0, 1, 3] rfl ?_
          exact J8 _ h
        · have h := ite_F h q24
          refine sw_iconst X (v := 0) (by decide) dX6_thereOf_26 ?_
          refine sw_goto X 89 (by decide) dX6_thereOf_27 ?_
          refine sw_sub [0, 1, 3] rfl ?_
          exact J8 _ h
theorem dX6_countOf_0 : decode cX6_countOf 0 = .ok (.iload_n 1, 1) := by decide +kernel
theorem dX6_countOf_1 : decode cX6_countOf 1 = .ok (.tableswitch 99 0 7 #[47, 52, 59, 66, 73, 80, 87, 94], 47) := by decide +kernel
theorem dX6_countOf_48 : decode cX6_countOf 48 = .ok (.aload_n 0, 1) := by decide +kernel
theorem dX6_countOf_49 : decode cX6_countOf 49 = .ok (.getfield 136, 3) := by decide +kernel
theorem dX6_countOf_52 : decode cX6_countOf 52 = .ok (.ireturn, 1) := by decide +kernel
theorem dX6_countOf_53 : decode cX6_countOf 53 = .ok (.aload_n 0, 1) := by decide +kernel
theorem dX6_countOf_54 : decode cX6_countOf 54 = .ok (.getfield 7, 3) := by decide +kernel
theorem dX6_countOf_57 : decode cX6_countOf 57 = .ok (.iconst 1, 1) := by decide +kernel
theorem dX6_countOf_58 : decode cX6_countOf 58 = .ok (.iaload, 1) := by decide +kernel
theorem dX6_countOf_59 : decode cX6_countOf 59 = .ok (.ireturn, 1) := by decide +kernel
theorem dX6_countOf_60 : decode cX6_countOf 60 = .ok (.aload_n 0, 1) := by decide +kernel
theorem dX6_countOf_61 : decode cX6_countOf 61 = .ok (.getfield 7, 3) := by decide +kernel
theorem dX6_countOf_64 : decode cX6_countOf 64 = .ok (.iconst 2, 1) := by decide +kernel
theorem dX6_countOf_65 : decode cX6_countOf 65 = .ok (.iaload, 1) := by decide +kernel
theorem dX6_countOf_66 : decode cX6_countOf 66 = .ok (.ireturn, 1) := by decide +kernel
theorem dX6_countOf_67 : decode cX6_countOf 67 = .ok (.aload_n 0, 1) := by decide +kernel
theorem dX6_countOf_68 : decode cX6_countOf 68 = .ok (.getfield 7, 3) := by decide +kernel
theorem dX6_countOf_71 : decode cX6_countOf 71 = .ok (.iconst 3, 1) := by decide +kernel
theorem dX6_countOf_72 : decode cX6_countOf 72 = .ok (.iaload, 1) := by decide +kernel
theorem dX6_countOf_73 : decode cX6_countOf 73 = .ok (.ireturn, 1) := by decide +kernel
theorem dX6_countOf_74 : decode cX6_countOf 74 = .ok (.aload_n 0, 1) := by decide +kernel
theorem dX6_countOf_75 : decode cX6_countOf 75 = .ok (.getfield 7, 3) := by decide +kernel
theorem dX6_countOf_78 : decode cX6_countOf 78 = .ok (.iconst 0, 1) := by decide +kernel
theorem dX6_countOf_79 : decode cX6_countOf 79 = .ok (.iaload, 1) := by decide +kernel
theorem dX6_countOf_80 : decode cX6_countOf 80 = .ok (.ireturn, 1) := by decide +kernel
theorem dX6_countOf_81 : decode cX6_countOf 81 = .ok (.aload_n 0, 1) := by decide +kernel
theorem dX6_countOf_82 : decode cX6_countOf 82 = .ok (.getfield 7, 3) := by decide +kernel
theorem dX6_countOf_85 : decode cX6_countOf 85 = .ok (.iconst 4, 1) := by decide +kernel
theorem dX6_countOf_86 : decode cX6_countOf 86 = .ok (.iaload, 1) := by decide +kernel
theorem dX6_countOf_87 : decode cX6_countOf 87 = .ok (.ireturn, 1) := by decide +kernel
theorem dX6_countOf_88 : decode cX6_countOf 88 = .ok (.aload_n 0, 1) := by decide +kernel
theorem dX6_countOf_89 : decode cX6_countOf 89 = .ok (.getfield 7, 3) := by decide +kernel
theorem dX6_countOf_92 : decode cX6_countOf 92 = .ok (.iconst 5, 1) := by decide +kernel
theorem dX6_countOf_93 : decode cX6_countOf 93 = .ok (.iaload, 1) := by decide +kernel
theorem dX6_countOf_94 : decode cX6_countOf 94 = .ok (.ireturn, 1) := by decide +kernel
theorem dX6_countOf_95 : decode cX6_countOf 95 = .ok (.aload_n 0, 1) := by decide +kernel
theorem dX6_countOf_96 : decode cX6_countOf 96 = .ok (.invokevirtual 279, 3) := by decide +kernel
theorem dX6_countOf_99 : decode cX6_countOf 99 = .ok (.ireturn, 1) := by decide +kernel
theorem dX6_countOf_100 : decode cX6_countOf 100 = .ok (.aload_n 0, 1) := by decide +kernel
theorem dX6_countOf_101 : decode cX6_countOf 101 = .ok (.iload_n 1, 1) := by decide +kernel
theorem dX6_countOf_102 : decode cX6_countOf 102 = .ok (.invokevirtual 282, 3) := by decide +kernel
theorem dX6_countOf_105 : decode cX6_countOf 105 = .ok (.ireturn, 1) := by decide +kernel
def j_X6_countOf (F : Nat) (a1 : Int32) (st : sw_St) : Option Int32 :=
(if a1 = 0 then (
 some (st.1 63 1 : Int32))
else (
 (if a1 = 1 then (
  some (st.1 64 1 : Int32))
 else (
  (if a1 = 2 then (
   some (st.1 64 2 : Int32))
  else (
   (if a1 = 3 then (
    some (st.1 64 3 : Int32))
   else (
    (if a1 = 4 then (
     some (st.1 64 0 : Int32))
    else (
     (if a1 = 5 then (
      some (st.1 64 4 : Int32))
     else (
      (if a1 = 6 then (
       some (st.1 64 5 : Int32))
      else (
       (if a1 = 7 then (
        bo (j_X6_strongs F st) (fun (r16 : Int32) =>
        some (r16 : Int32)))
       else (
        bo (j_X6_thereOf F a1 st) (fun (r18 : Int32) =>
        some (r18 : Int32))))))))))))))))))
set_option maxHeartbeats 4000000 in
set_option maxRecDepth 100000 in
theorem c_X6_countOf (F : Nat) (a1 : Int32) (st : sw_St) {r : Int32} (h : j_X6_countOf F a1 st = some r) : sw_CI yX6_countOf (.code yX6_countOf cX6_countOf 2 (some .int)) 3 (fun g => [.ref (g.1 63), .int a1]) st r st := by
  refine sw_entI RX6 (fun g => [(0, .ref (g.1 63)), (1, .int a1)]) (by decide) rfl (fun _ => Nat.le_of_ble_eq_true rfl) (fun _ => rfl) ?_
  intro p l e s m args below meth c g X hr hlk
  unfold j_X6_countOf at h
  refine sw_iload_n X 1 rfl rfl dX6_countOf_0 ?_
  by_cases q1 : a1 = 0
  · have h := ite_T h q1
    refine sw_tabIn X (k := 0) (off := 47) 48 q1 (by decide) (by decide) (by decide) (by decide) dX6_countOf_1 ?_
    refine sw_aload_n X 0 rfl rfl dX6_countOf_48 ?_
    refine sw_getI X sw_cl6 (show sw_kd 63 = 6 from rfl) (k := 1) rfl (by decide) wf_X6_136 dX6_countOf_49 ?_
    exact sw_iret X hr hlk dX6_countOf_52 (by cases h; rfl)
  · have h := ite_F h q1
    by_cases q2 : a1 = 1
    · have h := ite_T h q2
      refine sw_tabIn X (k := 1) (off := 52) 53 q2 (by decide) (by decide) (by decide) (by decide) dX6_countOf_1 ?_
      refine sw_aload_n X 0 rfl rfl dX6_countOf_53 ?_
      refine sw_getR X sw_cl6 (show sw_kd 63 = 6 from rfl) (k := 0) rfl (by decide) (o1 := 64) rfl wf_X6_7 dX6_countOf_54 ?_
      refine sw_iconst X (v := 1) (by decide) dX6_countOf_57 ?_
      refine sw_iald X (show sw_kd 64 = 8 from rfl) (n := 835) rfl (i := 1) (by unfold vp_in; decide) dX6_countOf_58 ?_
      exact sw_iret X hr hlk dX6_countOf_59 (by cases h; rfl)
    · have h := ite_F h q2
      by_cases q4 : a1 = 2
      · have h := ite_T h q4
        refine sw_tabIn X (k := 2) (off := 59) 60 q4 (by decide) (by decide) (by decide) (by decide) dX6_countOf_1 ?_
        refine sw_aload_n X 0 rfl rfl dX6_countOf_60 ?_
        refine sw_getR X sw_cl6 (show sw_kd 63 = 6 from rfl) (k := 0) rfl (by decide) (o1 := 64) rfl wf_X6_7 dX6_countOf_61 ?_
        refine sw_iconst X (v := 2) (by decide) dX6_countOf_64 ?_
        refine sw_iald X (show sw_kd 64 = 8 from rfl) (n := 835) rfl (i := 2) (by unfold vp_in; decide) dX6_countOf_65 ?_
        exact sw_iret X hr hlk dX6_countOf_66 (by cases h; rfl)
      · have h := ite_F h q4
        by_cases q6 : a1 = 3
        · have h := ite_T h q6
          refine sw_tabIn X (k := 3) (off := 66) 67 q6 (by decide) (by decide) (by decide) (by decide) dX6_countOf_1 ?_
          refine sw_aload_n X 0 rfl rfl dX6_countOf_67 ?_
          refine sw_getR X sw_cl6 (show sw_kd 63 = 6 from rfl) (k := 0) rfl (by decide) (o1 := 64) rfl wf_X6_7 dX6_countOf_68 ?_
          refine sw_iconst X (v := 3) (by decide) dX6_countOf_71 ?_
          refine sw_iald X (show sw_kd 64 = 8 from rfl) (n := 835) rfl (i := 3) (by unfold vp_in; decide) dX6_countOf_72 ?_
          exact sw_iret X hr hlk dX6_countOf_73 (by cases h; rfl)
        · have h := ite_F h q6
          by_cases q8 : a1 = 4
          · have h := ite_T h q8
            refine sw_tabIn X (k := 4) (off := 73) 74 q8 (by decide) (by decide) (by decide) (by decide) dX6_countOf_1 ?_
            refine sw_aload_n X 0 rfl rfl dX6_countOf_74 ?_
            refine sw_getR X sw_cl6 (show sw_kd 63 = 6 from rfl) (k := 0) rfl (by decide) (o1 := 64) rfl wf_X6_7 dX6_countOf_75 ?_
            refine sw_iconst X (v := 0) (by decide) dX6_countOf_78 ?_
            refine sw_iald X (show sw_kd 64 = 8 from rfl) (n := 835) rfl (i := 0) (by unfold vp_in; decide) dX6_countOf_79 ?_
            exact sw_iret X hr hlk dX6_countOf_80 (by cases h; rfl)
          · have h := ite_F h q8
            by_cases q10 : a1 = 5
            · have h := ite_T h q10
              refine sw_tabIn X (k := 5) (off := 80) 81 q10 (by decide) (by decide) (by decide) (by decide) dX6_countOf_1 ?_
              refine sw_aload_n X 0 rfl rfl dX6_countOf_81 ?_
              refine sw_getR X sw_cl6 (show sw_kd 63 = 6 from rfl) (k := 0) rfl (by decide) (o1 := 64) rfl wf_X6_7 dX6_countOf_82 ?_
              refine sw_iconst X (v := 4) (by decide) dX6_countOf_85 ?_
              refine sw_iald X (show sw_kd 64 = 8 from rfl) (n := 835) rfl (i := 4) (by unfold vp_in; decide) dX6_countOf_86 ?_
              exact sw_iret X hr hlk dX6_countOf_87 (by cases h; rfl)
            · have h := ite_F h q10
              by_cases q12 : a1 = 6
              · have h := ite_T h q12
                refine sw_tabIn X (k := 6) (off := 87) 88 q12 (by decide) (by decide) (by decide) (by decide) dX6_countOf_1 ?_
                refine sw_aload_n X 0 rfl rfl dX6_countOf_88 ?_
                refine sw_getR X sw_cl6 (show sw_kd 63 = 6 from rfl) (k := 0) rfl (by decide) (o1 := 64) rfl wf_X6_7 dX6_countOf_89 ?_
                refine sw_iconst X (v := 5) (by decide) dX6_countOf_92 ?_
                refine sw_iald X (show sw_kd 64 = 8 from rfl) (n := 835) rfl (i := 5) (by unfold vp_in; decide) dX6_countOf_93 ?_
                exact sw_iret X hr hlk dX6_countOf_94 (by cases h; rfl)
              · have h := ite_F h q12
                by_cases q14 : a1 = 7
                · have h := ite_T h q14
                  refine sw_tabIn X (k := 7) (off := 94) 95 q14 (by decide) (by decide) (by decide) (by decide) dX6_countOf_1 ?_
                  refine sw_aload_n X 0 rfl rfl dX6_countOf_95 ?_
                  obtain ⟨r16, c15, h⟩ := bo_E h
                  refine sw_callVI X (o := 63) (As := (fun g => [])) sw_cl6 (show sw_kd 63 = 6 from rfl) ws_X6_strongs (by omega) (c_X6_strongs F st c15) rfl rfl (Nat.le_of_ble_eq_true rfl) wm_X6_279 dX6_countOf_96 ?_
                  exact sw_iret X hr hlk dX6_countOf_99 (by cases h; rfl)
                · have h := ite_F h q14
                  have n0 := lv_neT q1 (show (0 : Int32).toInt = 0 by decide)
                  have n1 := lv_neT q2 (show (1 : Int32).toInt = 1 by decide)
                  have n2 := lv_neT q4 (show (2 : Int32).toInt = 2 by decide)
                  have n3 := lv_neT q6 (show (3 : Int32).toInt = 3 by decide)
                  have n4 := lv_neT q8 (show (4 : Int32).toInt = 4 by decide)
                  have n5 := lv_neT q10 (show (5 : Int32).toInt = 5 by decide)
                  have n6 := lv_neT q12 (show (6 : Int32).toInt = 6 by decide)
                  have n7 := lv_neT q14 (show (7 : Int32).toInt = 7 by decide)
                  refine sw_tabOut X 100 (by omega) (by decide) dX6_countOf_1 ?_
                  refine sw_aload_n X 0 rfl rfl dX6_countOf_100 ?_
                  refine sw_iload_n X 1 rfl rfl dX6_countOf_101 ?_
                  obtain ⟨r18, c17, h⟩ := bo_E h
                  refine sw_callVI X (o := 63) (As := (fun g => [.int a1])) sw_cl6 (show sw_kd 63 = 6 from rfl) ws_X6_thereOf (by omega) (c_X6_thereOf F a1 st c17) rfl rfl (Nat.le_of_ble_eq_true rfl) wm_X6_282 dX6_countOf_102 ?_
                  exact sw_iret X hr hlk dX6_countOf_105 (by cases h; rfl)
theorem dX6_count_0 : decode cX6_count 0 = .ok (.iload_n 1, 1) := by decide +kernel
theorem dX6_count_1 : decode cX6_count 1 = .ok (.i2l, 1) := by decide +kernel
theorem dX6_count_2 : decode cX6_count 2 = .ok (.lconst 0, 1) := by decide +kernel
theorem dX6_count_3 : decode cX6_count 3 = .ok (.ldc2_w 243, 3) := by decide +kernel
theorem dX6_count_6 : decode cX6_count 6 = .ok (.invokestatic 63, 3) := by decide +kernel
theorem dX6_count_9 : decode cX6_count 9 = .ok (.ifCond .eq 11, 3) := by decide +kernel
theorem dX6_count_12 : decode cX6_count 12 = .ok (.aload_n 0, 1) := by decide +kernel
theorem dX6_count_13 : decode cX6_count 13 = .ok (.iload_n 1, 1) := by decide +kernel
theorem dX6_count_14 : decode cX6_count 14 = .ok (.invokevirtual 285, 3) := by decide +kernel
theorem dX6_count_17 : decode cX6_count 17 = .ok (.goto 4, 3) := by decide +kernel
theorem dX6_count_20 : decode cX6_count 20 = .ok (.iconst (-1), 1) := by decide +kernel
theorem dX6_count_21 : decode cX6_count 21 = .ok (.ireturn, 1) := by decide +kernel
def j_X6_count (F : Nat) (a1 : Int32) (st : sw_St) : Option Int32 :=
bo (j_X6_in F ((a1 : Int32).toInt64) 0 10 st) (fun (r2 : Int32) =>
jn (fun (x3 : Int32) => 
  some (x3 : Int32)) (fun k4 =>
 (if r2 = 0 then (
  k4 (-1))
 else (
  bo (j_X6_countOf F a1 st) (fun (r8 : Int32) =>
  k4 r8)))))
set_option maxHeartbeats 4000000 in
set_option maxRecDepth 100000 in
theorem c_X6_count (F : Nat) (a1 : Int32) (st : sw_St) {r : Int32} (h : j_X6_count F a1 st = some r) : sw_CI yX6_count (.code yX6_count cX6_count 2 (some .int)) 4 (fun g => [.ref (g.1 63), .int a1]) st r st := by
  refine sw_entI RX6 (fun g => [(0, .ref (g.1 63)), (1, .int a1)]) (by decide) rfl (fun _ => Nat.le_of_ble_eq_true rfl) (fun _ => rfl) ?_
  intro p l e s m args below meth c g X hr hlk
  unfold j_X6_count at h
  refine sw_iload_n X 1 rfl rfl dX6_count_0 ?_
  refine sw_i2l X dX6_count_1 ?_
  refine sw_lconst X (v := 0) (by decide) dX6_count_2 ?_
  refine sw_ldc2 X (v := 10) wl_X6_243 dX6_count_3 ?_
  obtain ⟨r2, c1, h⟩ := bo_E h
  refine sw_callSI X (As := (fun g => [.long ((a1 : Int32).toInt64), .long 0, .long 10])) ws_X6_in (by omega) (c_X6_in F ((a1 : Int32).toInt64) 0 10 st c1) rfl rfl (Nat.le_of_ble_eq_true rfl) wm_X6_63 dX6_count_6 ?_
  refine jn1_E (fun (x3 : Int32) => sw_V p l e 4 s m args below meth c g (sw_A g s.heap.size) (sw_QI below g args s r st) 2 21 [] [.int x3] st) h (fun x3 h => ?_) (fun k4 J5 h => ?_)
  · exact sw_iret X hr hlk dX6_count_21 (by cases h; rfl)
  · refine sw_if_eq X 20 (by decide) dX6_count_9 (fun q6 => ?_) (fun q6 => ?_)
    · have h := ite_T h q6
      refine sw_iconst X (v := (-1)) (by decide) dX6_count_20 ?_
      refine sw_sub [] rfl ?_
      exact J5 _ h
    · have h := ite_F h q6
      refine sw_aload_n X 0 rfl rfl dX6_count_12 ?_
      refine sw_iload_n X 1 rfl rfl dX6_count_13 ?_
      obtain ⟨r8, c7, h⟩ := bo_E h
      refine sw_callVI X (o := 63) (As := (fun g => [.int a1])) sw_cl6 (show sw_kd 63 = 6 from rfl) ws_X6_countOf (by omega) (c_X6_countOf F a1 st c7) rfl rfl (Nat.le_of_ble_eq_true rfl) wm_X6_285 dX6_count_14 ?_
      refine sw_goto X 21 (by decide) dX6_count_17 ?_
      refine sw_sub [] rfl ?_
      exact J5 _ h
theorem dX6_finding_0 : decode cX6_finding 0 = .ok (.aload_n 0, 1) := by decide +kernel
theorem dX6_finding_1 : decode cX6_finding 1 = .ok (.getfield 54, 3) := by decide +kernel
theorem dX6_finding_4 : decode cX6_finding 4 = .ok (.ireturn, 1) := by decide +kernel
def j_X6_finding (F : Nat) (st : sw_St) : Option Int32 :=
some (st.1 63 12 : Int32)
set_option maxHeartbeats 4000000 in
set_option maxRecDepth 100000 in
theorem c_X6_finding (F : Nat) (st : sw_St) {r : Int32} (h : j_X6_finding F  st = some r) : sw_CI yX6_finding (.code yX6_finding cX6_finding 1 (some .int)) 1 (fun g => [.ref (g.1 63)]) st r st := by
  refine sw_entI RX6 (fun g => [(0, .ref (g.1 63))]) (by decide) rfl (fun _ => Nat.le_of_ble_eq_true rfl) (fun _ => rfl) ?_
  intro p l e s m args below meth c g X hr hlk
  unfold j_X6_finding at h
  refine sw_aload_n X 0 rfl rfl dX6_finding_0 ?_
  refine sw_getI X sw_cl6 (show sw_kd 63 = 6 from rfl) (k := 12) rfl (by decide) wf_X6_54 dX6_finding_1 ?_
  exact sw_iret X hr hlk dX6_finding_4 (by cases h; rfl)
theorem dX6_findings_0 : decode cX6_findings 0 = .ok (.iload_n 1, 1) := by decide +kernel
theorem dX6_findings_1 : decode cX6_findings 1 = .ok (.i2l, 1) := by decide +kernel
theorem dX6_findings_2 : decode cX6_findings 2 = .ok (.lconst 1, 1) := by decide +kernel
theorem dX6_findings_3 : decode cX6_findings 3 = .ok (.ldc2_w 61, 3) := by decide +kernel
theorem dX6_findings_6 : decode cX6_findings 6 = .ok (.invokestatic 63, 3) := by decide +kernel
theorem dX6_findings_9 : decode cX6_findings 9 = .ok (.ifCond .eq 12, 3) := by decide +kernel
theorem dX6_findings_12 : decode cX6_findings 12 = .ok (.aload_n 0, 1) := by decide +kernel
theorem dX6_findings_13 : decode cX6_findings 13 = .ok (.getfield 38, 3) := by decide +kernel
theorem dX6_findings_16 : decode cX6_findings 16 = .ok (.iload_n 1, 1) := by decide +kernel
theorem dX6_findings_17 : decode cX6_findings 17 = .ok (.iaload, 1) := by decide +kernel
theorem dX6_findings_18 : decode cX6_findings 18 = .ok (.goto 4, 3) := by decide +kernel
theorem dX6_findings_21 : decode cX6_findings 21 = .ok (.iconst (-1), 1) := by decide +kernel
theorem dX6_findings_22 : decode cX6_findings 22 = .ok (.ireturn, 1) := by decide +kernel
def j_X6_findings (F : Nat) (a1 : Int32) (st : sw_St) : Option Int32 :=
bo (j_X6_in F ((a1 : Int32).toInt64) 1 5 st) (fun (r2 : Int32) =>
jn (fun (x3 : Int32) => 
  some (x3 : Int32)) (fun k4 =>
 (if r2 = 0 then (
  k4 (-1))
 else (
  bnd a1 6 (
  k4 (st.1 72 (a1 : Int32).toNatClampNeg))))))
set_option maxHeartbeats 4000000 in
set_option maxRecDepth 100000 in
theorem c_X6_findings (F : Nat) (a1 : Int32) (st : sw_St) {r : Int32} (h : j_X6_findings F a1 st = some r) : sw_CI yX6_findings (.code yX6_findings cX6_findings 2 (some .int)) 2 (fun g => [.ref (g.1 63), .int a1]) st r st := by
  refine sw_entI RX6 (fun g => [(0, .ref (g.1 63)), (1, .int a1)]) (by decide) rfl (fun _ => Nat.le_of_ble_eq_true rfl) (fun _ => rfl) ?_
  intro p l e s m args below meth c g X hr hlk
  unfold j_X6_findings at h
  refine sw_iload_n X 1 rfl rfl dX6_findings_0 ?_
  refine sw_i2l X dX6_findings_1 ?_
  refine sw_lconst X (v := 1) (by decide) dX6_findings_2 ?_
  refine sw_ldc2 X (v := 5) wl_X6_61 dX6_findings_3 ?_
  obtain ⟨r2, c1, h⟩ := bo_E h
  refine sw_callSI X (As := (fun g => [.long ((a1 : Int32).toInt64), .long 1, .long 5])) ws_X6_in (by omega) (c_X6_in F ((a1 : Int32).toInt64) 1 5 st c1) rfl rfl (Nat.le_of_ble_eq_true rfl) wm_X6_63 dX6_findings_6 ?_
  refine jn1_E (fun (x3 : Int32) => sw_V p l e 2 s m args below meth c g (sw_A g s.heap.size) (sw_QI below g args s r st) 2 22 [] [.int x3] st) h (fun x3 h => ?_) (fun k4 J5 h => ?_)
  · exact sw_iret X hr hlk dX6_findings_22 (by cases h; rfl)
  · refine sw_if_eq X 21 (by decide) dX6_findings_9 (fun q6 => ?_) (fun q6 => ?_)
    · have h := ite_T h q6
      refine sw_iconst X (v := (-1)) (by decide) dX6_findings_21 ?_
      refine sw_sub [] rfl ?_
      exact J5 _ h
    · have h := ite_F h q6
      refine sw_aload_n X 0 rfl rfl dX6_findings_12 ?_
      refine sw_getR X sw_cl6 (show sw_kd 63 = 6 from rfl) (k := 13) rfl (by decide) (o1 := 72) rfl wf_X6_38 dX6_findings_13 ?_
      refine sw_iload_n X 1 rfl rfl dX6_findings_16 ?_
      obtain ⟨q7, h⟩ := bnd_E h
      refine sw_iald X (show sw_kd 72 = 8 from rfl) (n := 6) rfl q7 dX6_findings_17 ?_
      refine sw_goto X 22 (by decide) dX6_findings_18 ?_
      refine sw_sub [] rfl ?_
      exact J5 _ h
