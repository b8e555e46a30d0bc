theorem dX6_nextOrder_0 : decode cX6_nextOrder 0 = .ok (.iload_n 1, 1) := by decide +kernel
theorem dX6_nextOrder_1 : decode cX6_nextOrder 1 = .ok (.iconst 2, 1) := by decide +kernel
theorem dX6_nextOrder_2 : decode cX6_nextOrder 2 = .ok (.isub, 1) := by decide +kernel
theorem dX6_nextOrder_3 : decode cX6_nextOrder 3 = .ok (.istore_n 2, 1) := by decide +kernel
theorem dX6_nextOrder_4 : decode cX6_nextOrder 4 = .ok (.iload_n 2, 1) := by decide +kernel
theorem dX6_nextOrder_5 : decode cX6_nextOrder 5 = .ok (.ifCond .lt 26, 3) := by decide +kernel
theorem dX6_nextOrder_8 : decode cX6_nextOrder 8 = .ok (.aload_n 0, 1) := by decide +kernel
theorem dX6_nextOrder_9 : decode cX6_nextOrder 9 = .ok (.getfield 44, 3) := by decide +kernel
theorem dX6_nextOrder_12 : decode cX6_nextOrder 12 = .ok (.iload_n 2, 1) := by decide +kernel
theorem dX6_nextOrder_13 : decode cX6_nextOrder 13 = .ok (.iaload, 1) := by decide +kernel
theorem dX6_nextOrder_14 : decode cX6_nextOrder 14 = .ok (.aload_n 0, 1) := by decide +kernel
theorem dX6_nextOrder_15 : decode cX6_nextOrder 15 = .ok (.getfield 44, 3) := by decide +kernel
theorem dX6_nextOrder_18 : decode cX6_nextOrder 18 = .ok (.iload_n 2, 1) := by decide +kernel
theorem dX6_nextOrder_19 : decode cX6_nextOrder 19 = .ok (.iconst 1, 1) := by decide +kernel
theorem dX6_nextOrder_20 : decode cX6_nextOrder 20 = .ok (.iadd, 1) := by decide +kernel
theorem dX6_nextOrder_21 : decode cX6_nextOrder 21 = .ok (.iaload, 1) := by decide +kernel
theorem dX6_nextOrder_22 : decode cX6_nextOrder 22 = .ok (.if_icmp .le 9, 3) := by decide +kernel
theorem dX6_nextOrder_25 : decode cX6_nextOrder 25 = .ok (.iinc 2 (-1), 3) := by decide +kernel
theorem dX6_nextOrder_28 : decode cX6_nextOrder 28 = .ok (.goto (-24), 3) := by decide +kernel
theorem dX6_nextOrder_31 : decode cX6_nextOrder 31 = .ok (.iload_n 2, 1) := by decide +kernel
theorem dX6_nextOrder_32 : decode cX6_nextOrder 32 = .ok (.ifCond .ge 5, 3) := by decide +kernel
theorem dX6_nextOrder_35 : decode cX6_nextOrder 35 = .ok (.iconst 0, 1) := by decide +kernel
theorem dX6_nextOrder_36 : decode cX6_nextOrder 36 = .ok (.ireturn, 1) := by decide +kernel
theorem dX6_nextOrder_37 : decode cX6_nextOrder 37 = .ok (.iload_n 1, 1) := by decide +kernel
theorem dX6_nextOrder_38 : decode cX6_nextOrder 38 = .ok (.iconst 1, 1) := by decide +kernel
theorem dX6_nextOrder_39 : decode cX6_nextOrder 39 = .ok (.isub, 1) := by decide +kernel
theorem dX6_nextOrder_40 : decode cX6_nextOrder 40 = .ok (.istore_n 3, 1) := by decide +kernel
theorem dX6_nextOrder_41 : decode cX6_nextOrder 41 = .ok (.aload_n 0, 1) := by decide +kernel
theorem dX6_nextOrder_42 : decode cX6_nextOrder 42 = .ok (.getfield 44, 3) := by decide +kernel
theorem dX6_nextOrder_45 : decode cX6_nextOrder 45 = .ok (.iload_n 3, 1) := by decide +kernel
theorem dX6_nextOrder_46 : decode cX6_nextOrder 46 = .ok (.iaload, 1) := by decide +kernel
theorem dX6_nextOrder_47 : decode cX6_nextOrder 47 = .ok (.aload_n 0, 1) := by decide +kernel
theorem dX6_nextOrder_48 : decode cX6_nextOrder 48 = .ok (.getfield 44, 3) := by decide +kernel
theorem dX6_nextOrder_51 : decode cX6_nextOrder 51 = .ok (.iload_n 2, 1) := by decide +kernel
theorem dX6_nextOrder_52 : decode cX6_nextOrder 52 = .ok (.iaload, 1) := by decide +kernel
theorem dX6_nextOrder_53 : decode cX6_nextOrder 53 = .ok (.if_icmp .ge 9, 3) := by decide +kernel
theorem dX6_nextOrder_56 : decode cX6_nextOrder 56 = .ok (.iinc 3 (-1), 3) := by decide +kernel
theorem dX6_nextOrder_59 : decode cX6_nextOrder 59 = .ok (.goto (-18), 3) := by decide +kernel
theorem dX6_nextOrder_62 : decode cX6_nextOrder 62 = .ok (.aload_n 0, 1) := by decide +kernel
theorem dX6_nextOrder_63 : decode cX6_nextOrder 63 = .ok (.getfield 44, 3) := by decide +kernel
theorem dX6_nextOrder_66 : decode cX6_nextOrder 66 = .ok (.iload_n 2, 1) := by decide +kernel
theorem dX6_nextOrder_67 : decode cX6_nextOrder 67 = .ok (.iaload, 1) := by decide +kernel
theorem dX6_nextOrder_68 : decode cX6_nextOrder 68 = .ok (.istore 4, 2) := by decide +kernel
theorem dX6_nextOrder_70 : decode cX6_nextOrder 70 = .ok (.aload_n 0, 1) := by decide +kernel
theorem dX6_nextOrder_71 : decode cX6_nextOrder 71 = .ok (.getfield 44, 3) := by decide +kernel
theorem dX6_nextOrder_74 : decode cX6_nextOrder 74 = .ok (.iload_n 2, 1) := by decide +kernel
theorem dX6_nextOrder_75 : decode cX6_nextOrder 75 = .ok (.aload_n 0, 1) := by decide +kernel
theorem dX6_nextOrder_76 : decode cX6_nextOrder 76 = .ok (.getfield 44, 3) := by decide +kernel
theorem dX6_nextOrder_79 : decode cX6_nextOrder 79 = .ok (.iload_n 3, 1) := by decide +kernel
theorem dX6_nextOrder_80 : decode cX6_nextOrder 80 = .ok (.iaload, 1) := by decide +kernel
theorem dX6_nextOrder_81 : decode cX6_nextOrder 81 = .ok (.iastore, 1) := by decide +kernel
theorem dX6_nextOrder_82 : decode cX6_nextOrder 82 = .ok (.aload_n 0, 1) := by decide +kernel
theorem dX6_nextOrder_83 : decode cX6_nextOrder 83 = .ok (.getfield 44, 3) := by decide +kernel
theorem dX6_nextOrder_86 : decode cX6_nextOrder 86 = .ok (.iload_n 3, 1) := by decide +kernel
theorem dX6_nextOrder_87 : decode cX6_nextOrder 87 = .ok (.iload 4, 2) := by decide +kernel
theorem dX6_nextOrder_89 : decode cX6_nextOrder 89 = .ok (.iastore, 1) := by decide +kernel
theorem dX6_nextOrder_90 : decode cX6_nextOrder 90 = .ok (.iload_n 2, 1) := by decide +kernel
theorem dX6_nextOrder_91 : decode cX6_nextOrder 91 = .ok (.iconst 1, 1) := by decide +kernel
theorem dX6_nextOrder_92 : decode cX6_nextOrder 92 = .ok (.iadd, 1) := by decide +kernel
theorem dX6_nextOrder_93 : decode cX6_nextOrder 93 = .ok (.istore 5, 2) := by decide +kernel
theorem dX6_nextOrder_95 : decode cX6_nextOrder 95 = .ok (.iload_n 1, 1) := by decide +kernel
theorem dX6_nextOrder_96 : decode cX6_nextOrder 96 = .ok (.iconst 1, 1) := by decide +kernel
theorem dX6_nextOrder_97 : decode cX6_nextOrder 97 = .ok (.isub, 1) := by decide +kernel
theorem dX6_nextOrder_98 : decode cX6_nextOrder 98 = .ok (.istore 6, 2) := by decide +kernel
theorem dX6_nextOrder_100 : decode cX6_nextOrder 100 = .ok (.iload 5, 2) := by decide +kernel
theorem dX6_nextOrder_102 : decode cX6_nextOrder 102 = .ok (.iload 6, 2) := by decide +kernel
theorem dX6_nextOrder_104 : decode cX6_nextOrder 104 = .ok (.if_icmp .ge 44, 3) := by decide +kernel
theorem dX6_nextOrder_107 : decode cX6_nextOrder 107 = .ok (.aload_n 0, 1) := by decide +kernel
theorem dX6_nextOrder_108 : decode cX6_nextOrder 108 = .ok (.getfield 44, 3) := by decide +kernel
theorem dX6_nextOrder_111 : decode cX6_nextOrder 111 = .ok (.iload 5, 2) := by decide +kernel
theorem dX6_nextOrder_113 : decode cX6_nextOrder 113 = .ok (.iaload, 1) := by decide +kernel
theorem dX6_nextOrder_114 : decode cX6_nextOrder 114 = .ok (.istore 4, 2) := by decide +kernel
theorem dX6_nextOrder_116 : decode cX6_nextOrder 116 = .ok (.aload_n 0, 1) := by decide +kernel
theorem dX6_nextOrder_117 : decode cX6_nextOrder 117 = .ok (.getfield 44, 3) := by decide +kernel
theorem dX6_nextOrder_120 : decode cX6_nextOrder 120 = .ok (.iload 5, 2) := by decide +kernel
theorem dX6_nextOrder_122 : decode cX6_nextOrder 122 = .ok (.aload_n 0, 1) := by decide +kernel
theorem dX6_nextOrder_123 : decode cX6_nextOrder 123 = .ok (.getfield 44, 3) := by decide +kernel
theorem dX6_nextOrder_126 : decode cX6_nextOrder 126 = .ok (.iload 6, 2) := by decide +kernel
theorem dX6_nextOrder_128 : decode cX6_nextOrder 128 = .ok (.iaload, 1) := by decide +kernel
theorem dX6_nextOrder_129 : decode cX6_nextOrder 129 = .ok (.iastore, 1) := by decide +kernel
theorem dX6_nextOrder_130 : decode cX6_nextOrder 130 = .ok (.aload_n 0, 1) := by decide +kernel
theorem dX6_nextOrder_131 : decode cX6_nextOrder 131 = .ok (.getfield 44, 3) := by decide +kernel
theorem dX6_nextOrder_134 : decode cX6_nextOrder 134 = .ok (.iload 6, 2) := by decide +kernel
theorem dX6_nextOrder_136 : decode cX6_nextOrder 136 = .ok (.iload 4, 2) := by decide +kernel
theorem dX6_nextOrder_138 : decode cX6_nextOrder 138 = .ok (.iastore, 1) := by decide +kernel
theorem dX6_nextOrder_139 : decode cX6_nextOrder 139 = .ok (.iinc 5 1, 3) := by decide +kernel
theorem dX6_nextOrder_142 : decode cX6_nextOrder 142 = .ok (.iinc 6 (-1), 3) := by decide +kernel
theorem dX6_nextOrder_145 : decode cX6_nextOrder 145 = .ok (.goto (-45), 3) := by decide +kernel
theorem dX6_nextOrder_148 : decode cX6_nextOrder 148 = .ok (.iconst 1, 1) := by decide +kernel
theorem dX6_nextOrder_149 : decode cX6_nextOrder 149 = .ok (.ireturn, 1) := by decide +kernel
def j_X6_nextOrder (F : Nat) (a1 : Int32) (st : sw_St) : Option (Int32 × sw_St) :=
nm (a1 - 2) (fun (x1 : Int32) =>
lz1 (fun f3 (x2 : Int32) =>
 jn (
   (if 0 ≤ x2 then (
    nm (a1 - 1) (fun (x8 : Int32) =>
    lz1 (fun f10 (x9 : Int32) =>
     bnd x9 6 (
     bnd x2 6 (
     (if (st.1 74 (x2 : Int32).toNatClampNeg) ≤ (st.1 74 (x9 : Int32).toNatClampNeg) then (
      bnd x2 6 (
      nm (st.1 74 (x2 : Int32).toNatClampNeg) (fun (x16 : Int32) =>
      bnd x9 6 (
      bnd x2 6 (
      nm (sw_setC st 74 (x2 : Int32).toNatClampNeg (st.1 74 (x9 : Int32).toNatClampNeg)) (fun (s19 : sw_St) =>
      bnd x9 6 (
      nm (sw_setC s19 74 (x9 : Int32).toNatClampNeg x16) (fun (s21 : sw_St) =>
      nm (x2 + 1) (fun (x22 : Int32) =>
      nm (a1 - 1) (fun (x23 : Int32) =>
      lz3 (fun f27 (x24 : Int32) (x25 : Int32) (s26 : sw_St) =>
       (if x25 ≤ x24 then (
        some ((1 : Int32), s26))
       else (
        bnd x24 6 (
        nm (s26.1 74 (x24 : Int32).toNatClampNeg) (fun (x31 : Int32) =>
        bnd x25 6 (
        bnd x24 6 (
        nm (sw_setC s26 74 (x24 : Int32).toNatClampNeg (s26.1 74 (x25 : Int32).toNatClampNeg)) (fun (s34 : sw_St) =>
        bnd x25 6 (
        nm (sw_setC s34 74 (x25 : Int32).toNatClampNeg x31) (fun (s36 : sw_St) =>
        nm (x24 + 1) (fun (x37 : Int32) =>
        nm (x25 + (-1)) (fun (x38 : Int32) =>
        f27 x37 x38 s36)))))))))))) F x22 x23 s21))))))))))
     else (
      nm (x9 + (-1)) (fun (x39 : Int32) =>
      f10 x39)))))) F x8))
   else (
    some ((0 : Int32), st)))) (fun k5 =>
  (if x2 < 0 then (
   k5)
  else (
   bnd x2 6 (
   bnd (x2 + 1) 6 (
   (if (st.1 74 (x2 : Int32).toNatClampNeg) ≤ (st.1 74 ((x2 + 1) : Int32).toNatClampNeg) then (
    k5)
   else (
    nm (x2 + (-1)) (fun (x44 : Int32) =>
    f3 x44))))))))) F x1)
set_option maxHeartbeats 4000000 in
set_option maxRecDepth 100000 in
theorem c_X6_nextOrder (F : Nat) (a1 : Int32) (st : sw_St) {r : Int32} {st1 : sw_St} (h : j_X6_nextOrder F a1 st = some (r, st1)) : sw_CI yX6_nextOrder (.code yX6_nextOrder cX6_nextOrder 7 (some .boolean)) 1 (fun g => [.ref (g.1 63), .int a1]) st r st1 := by
  refine sw_entI RX6 (fun g => [(0, .ref (g.1 63)), (1, .int a1)]) (by decide) rfl (fun _ => Nat.le_of_ble_eq_true rfl) (fun _ => rfl) ?_
  intro p l e s m args below meth c g X hr hlk
  unfold j_X6_nextOrder at h
  refine sw_iload_n X 1 rfl rfl dX6_nextOrder_0 ?_
  refine sw_iconst X (v := 2) (by decide) dX6_nextOrder_1 ?_
  refine sw_isub X dX6_nextOrder_2 ?_
  refine sw_topi (fun x1 ex1 => ?_)
  have h := nm_E h ex1
  refine sw_istore_n X [(2, .int x1), (0, .ref (g.1 63)), (1, .int a1)] rfl (by decide) rfl dX6_nextOrder_3 ?_
  refine sw_sub [1, 2, 0] rfl ?_
  refine lz1_E (fun (x2 : Int32) => sw_V p l e 1 s m args below meth c g (sw_A g s.heap.size) (sw_QI below g args s r st1) 7 4 [(0, .ref (g.1 63)), (1, .int a1), (2, .int x2)] [] st) h (fun f3 ih4 x2 h => ?_)
  refine sw_iload_n X 2 rfl rfl dX6_nextOrder_4 ?_
  refine jn0_E (sw_V p l e 1 s m args below meth c g (sw_A g s.heap.size) (sw_QI below g args s r st1) 7 31 [(0, .ref (g.1 63)), (1, .int a1), (2, .int x2)] [] st) h (fun h => ?_) (fun k5 J6 h => ?_)
  · refine sw_iload_n X 2 rfl rfl dX6_nextOrder_31 ?_
    refine sw_if_ge X 37 (by decide) dX6_nextOrder_32 (fun q7 => ?_) (fun q7 => ?_)
    · have h := ite_T h q7
      refine sw_iload_n X 1 rfl rfl dX6_nextOrder_37 ?_
      refine sw_iconst X (v := 1) (by decide) dX6_nextOrder_38 ?_
      refine sw_isub X dX6_nextOrder_39 ?_
      refine sw_topi (fun x8 ex8 => ?_)
      have h := nm_E h ex8
      refine sw_istore_n X [(3, .int x8), (0, .ref (g.1 63)), (1, .int a1), (2, .int x2)] rfl (by decide) rfl dX6_nextOrder_40 ?_
      refine sw_sub [1, 2, 3, 0] rfl ?_
      refine lz1_E (fun (x9 : Int32) => sw_V p l e 1 s m args below meth c g (sw_A g s.heap.size) (sw_QI below g args s r st1) 7 41 [(0, .ref (g.1 63)), (1, .int a1), (2, .int x2), (3, .int x9)] [] st) h (fun f10 ih11 x9 h => ?_)
      refine sw_aload_n X 0 rfl rfl dX6_nextOrder_41 ?_
      refine sw_getR X sw_cl6 (show sw_kd 63 = 6 from rfl) (k := 22) rfl (by decide) (o1 := 74) rfl wf_X6_44 dX6_nextOrder_42 ?_
      refine sw_iload_n X 3 rfl rfl dX6_nextOrder_45 ?_
      obtain ⟨q12, h⟩ := bnd_E h
      refine sw_iald X (show sw_kd 74 = 8 from rfl) (n := 6) rfl q12 dX6_nextOrder_46 ?_
      refine sw_aload_n X 0 rfl rfl dX6_nextOrder_47 ?_
      refine sw_getR X sw_cl6 (show sw_kd 63 = 6 from rfl) (k := 22) rfl (by decide) (o1 := 74) rfl wf_X6_44 dX6_nextOrder_48 ?_
      refine sw_iload_n X 2 rfl rfl dX6_nextOrder_51 ?_
      obtain ⟨q13, h⟩ := bnd_E h
      refine sw_iald X (show sw_kd 74 = 8 from rfl) (n := 6) rfl q13 dX6_nextOrder_52 ?_
      refine sw_icmp_ge X 62 (by decide) dX6_nextOrder_53 (fun q14 => ?_) (fun q14 => ?_)
      · have h := ite_T h q14
        refine sw_aload_n X 0 rfl rfl dX6_nextOrder_62 ?_
        refine sw_getR X sw_cl6 (show sw_kd 63 = 6 from rfl) (k := 22) rfl (by decide) (o1 := 74) rfl wf_X6_44 dX6_nextOrder_63 ?_
        refine sw_iload_n X 2 rfl rfl dX6_nextOrder_66 ?_
        obtain ⟨q15, h⟩ := bnd_E h
        refine sw_iald X (show sw_kd 74 = 8 from rfl) (n := 6) rfl q15 dX6_nextOrder_67 ?_
        refine sw_topi (fun x16 ex16 => ?_)
        have h := nm_E h ex16
        refine sw_istore X [(4, .int x16), (0, .ref (g.1 63)), (1, .int a1), (2, .int x2), (3, .int x9)] (by decide) rfl dX6_nextOrder_68 ?_
        refine sw_aload_n X 1 rfl rfl dX6_nextOrder_70 ?_
        refine sw_getR X sw_cl6 (show sw_kd 63 = 6 from rfl) (k := 22) rfl (by decide) (o1 := 74) rfl wf_X6_44 dX6_nextOrder_71 ?_
        refine sw_iload_n X 3 rfl rfl dX6_nextOrder_74 ?_
        refine sw_aload_n X 1 rfl rfl dX6_nextOrder_75 ?_
        refine sw_getR X sw_cl6 (show sw_kd 63 = 6 from rfl) (k := 22) rfl (by decide) (o1 := 74) rfl wf_X6_44 dX6_nextOrder_76 ?_
        refine sw_iload_n X 4 rfl rfl dX6_nextOrder_79 ?_
        obtain ⟨q17, h⟩ := bnd_E h
        refine sw_iald X (show sw_kd 74 = 8 from rfl) (n := 6) rfl q17 dX6_nextOrder_80 ?_
        obtain ⟨q18, h⟩ := bnd_E h
        refine sw_iast X (show sw_kd 74 = 8 from rfl) (n := 6) rfl q18 dX6_nextOrder_81 (fun s19 es19 => ?_)
        have h := nm_E h es19
        refine sw_aload_n X 1 rfl rfl dX6_nextOrder_82 ?_
        refine sw_getR X sw_cl6 (show sw_kd 63 = 6 from rfl) (k := 22) rfl (by decide) (o1 := 74) rfl wf_X6_44 dX6_nextOrder_83 ?_
        refine sw_iload_n X 4 rfl rfl dX6_nextOrder_86 ?_
        refine sw_iload X 0 rfl dX6_nextOrder_87 ?_
        obtain ⟨q20, h⟩ := bnd_E h
        refine sw_iast X (show sw_kd 74 = 8 from rfl) (n := 6) rfl q20 dX6_nextOrder_89 (fun s21 es21 => ?_)
        have h := nm_E h es21
        refine sw_iload_n X 3 rfl rfl dX6_nextOrder_90 ?_
        refine sw_iconst X (v := 1) (by decide) dX6_nextOrder_91 ?_
        refine sw_iadd X dX6_nextOrder_92 ?_
        refine sw_topi (fun x22 ex22 => ?_)
        have h := nm_E h ex22
        refine sw_istore X [(5, .int x22), (4, .int x16), (0, .ref (g.1 63)), (1, .int a1), (2, .int x2), (3, .int x9)] (by decide) rfl dX6_nextOrder_93 ?_
        refine sw_iload_n X 3 rfl rfl dX6_nextOrder_95 ?_
        refine sw_iconst X (v := 1) (by decide) dX6_nextOrder_96 ?_
        refine sw_isub X dX6_nextOrder_97 ?_
        refine sw_topi (fun x23 ex23 => ?_)
        have h := nm_E h ex23
        refine sw_istore X [(6, .int x23), (5, .int x22), (4, .int x16), (0, .ref (g.1 63)), (1, .int a1), (2, .int x2), (3, .int x9)] (by decide) rfl dX6_nextOrder_98 ?_
        refine sw_sub [3, 1, 0] rfl ?_
        refine lz3_E (fun (x24 : Int32) (x25 : Int32) (s26 : sw_St) => sw_V p l e 1 s m args below meth c g (sw_A g s.heap.size) (sw_QI below g args s r st1) 7 100 [(0, .ref (g.1 63)), (5, .int x24), (6, .int x25)] [] s26) h (fun f27 ih28 x24 x25 s26 h => ?_)
        refine sw_iload X 1 rfl dX6_nextOrder_100 ?_
        refine sw_iload X 2 rfl dX6_nextOrder_102 ?_
        refine sw_icmp_ge X 148 (by decide) dX6_nextOrder_104 (fun q29 => ?_) (fun q29 => ?_)
        · have h := ite_T h q29
          refine sw_iconst X (v := 1) (by decide) dX6_nextOrder_148 ?_
          exact sw_zret X hr hlk (Or.inr rfl) dX6_nextOrder_149 h
        · have h := ite_F h q29
          refine sw_aload_n X 0 rfl rfl dX6_nextOrder_107 ?_
          refine sw_getR X sw_cl6 (show sw_kd 63 = 6 from rfl) (k := 22) rfl (by decide) (o1 := 74) rfl wf_X6_44 dX6_nextOrder_108 ?_
          refine sw_iload X 1 rfl dX6_nextOrder_111 ?_
          obtain ⟨q30, h⟩ := bnd_E h
          refine sw_iald X (show sw_kd 74 = 8 from rfl) (n := 6) rfl q30 dX6_nextOrder_113 ?_
          refine sw_topi (fun x31 ex31 => ?_)
          have h := nm_E h ex31
          refine sw_istore X [(4, .int x31), (0, .ref (g.1 63)), (5, .int x24), (6, .int x25)] (by decide) rfl dX6_nextOrder_114 ?_
          refine sw_aload_n X 1 rfl rfl dX6_nextOrder_116 ?_
          refine sw_getR X sw_cl6 (show sw_kd 63 = 6 from rfl) (k := 22) rfl (by decide) (o1 := 74) rfl wf_X6_44 dX6_nextOrder_117 ?_
          refine sw_iload X 2 rfl dX6_nextOrder_120 ?_
          refine sw_aload_n X 1 rfl rfl dX6_nextOrder_122 ?_
          refine sw_getR X sw_cl6 (show sw_kd 63 = 6 from rfl) (k := 22) rfl (by decide) (o1 := 74) rfl wf_X6_44 dX6_nextOrder_123 ?_
          refine sw_iload X 3 rfl dX6_nextOrder_126 ?_
          obtain ⟨q32, h⟩ := bnd_E h
          refine sw_iald X (show sw_kd 74 = 8 from rfl) (n := 6) rfl q32 dX6_nextOrder_128 ?_
          obtain ⟨q33, h⟩ := bnd_E h
          refine sw_iast X (show sw_kd 74 = 8 from rfl) (n := 6) rfl q33 dX6_nextOrder_129 (fun s34 es34 => ?_)
          have h := nm_E h es34
          refine sw_aload_n X 1 rfl rfl dX6_nextOrder_130 ?_
          refine sw_getR X sw_cl6 (show sw_kd 63 = 6 from rfl) (k := 22) rfl (by decide) (o1 := 74) rfl wf_X6_44 dX6_nextOrder_131 ?_
          refine sw_iload X 3 rfl dX6_nextOrder_134 ?_
          refine sw_iload X 0 rfl dX6_nextOrder_136 ?_
          obtain ⟨q35, h⟩ := bnd_E h
          refine sw_iast X (show sw_kd 74 = 8 from rfl) (n := 6) rfl q35 dX6_nextOrder_138 (fun s36 es36 => ?_)
          have h := nm_E h es36
          obtain ⟨x37, ex37⟩ : ∃ y : Int32, y = x24 + 1 := ⟨_, rfl⟩
          have h := nm_E h ex37
          refine sw_iinc X 2 x37 [(5, .int x37), (4, .int x31), (0, .ref (g.1 63)), (6, .int x25)] rfl (by rw [ex37]; rfl) (by decide) rfl dX6_nextOrder_139 ?_
          obtain ⟨x38, ex38⟩ : ∃ y : Int32, y = x25 + (-1) := ⟨_, rfl⟩
          have h := nm_E h ex38
          refine sw_iinc X 3 x38 [(6, .int x38), (5, .int x37), (4, .int x31), (0, .ref (g.1 63))] rfl (by rw [ex38]; rfl) (by decide) rfl dX6_nextOrder_142 ?_
          refine sw_goto X 100 (by decide) dX6_nextOrder_145 ?_
          refine sw_sub [3, 1, 0] rfl ?_
          exact ih28 _ _ _ h
      · have h := ite_F h q14
        obtain ⟨x39, ex39⟩ : ∃ y : Int32, y = x9 + (-1) := ⟨_, rfl⟩
        have h := nm_E h ex39
        refine sw_iinc X 3 x39 [(3, .int x39), (0, .ref (g.1 63)), (1, .int a1), (2, .int x2)] rfl (by rw [ex39]; rfl) (by decide) rfl dX6_nextOrder_56 ?_
        refine sw_goto X 41 (by decide) dX6_nextOrder_59 ?_
        refine sw_sub [1, 2, 3, 0] rfl ?_
        exact ih11 _ h
    · have h := ite_F h q7
      refine sw_iconst X (v := 0) (by decide) dX6_nextOrder_35 ?_
      exact sw_zret X hr hlk (Or.inl rfl) dX6_nextOrder_36 h
  · refine sw_if_lt X 31 (by decide) dX6_nextOrder_5 (fun q40 => ?_) (fun q40 => ?_)
    · have h := ite_T h q40
      exact J6  h
    · have h := ite_F h q40
      refine sw_aload_n X 0 rfl rfl dX6_nextOrder_8 ?_
      refine sw_getR X sw_cl6 (show sw_kd 63 = 6 from rfl) (k := 22) rfl (by decide) (o1 := 74) rfl wf_X6_44 dX6_nextOrder_9 ?_
      refine sw_iload_n X 2 rfl rfl dX6_nextOrder_12 ?_
      obtain ⟨q41, h⟩ := bnd_E h
      refine sw_iald X (show sw_kd 74 = 8 from rfl) (n := 6) rfl q41 dX6_nextOrder_13 ?_
      refine sw_aload_n X 0 rfl rfl dX6_nextOrder_14 ?_
      refine sw_getR X sw_cl6 (show sw_kd 63 = 6 from rfl) (k := 22) rfl (by decide) (o1 := 74) rfl wf_X6_44 dX6_nextOrder_15 ?_
      refine sw_iload_n X 2 rfl rfl dX6_nextOrder_18 ?_
      refine sw_iconst X (v := 1) (by decide) dX6_nextOrder_19 ?_
      refine sw_iadd X dX6_nextOrder_20 ?_
      obtain ⟨q42, h⟩ := bnd_E h
      refine sw_iald X (show sw_kd 74 = 8 from rfl) (n := 6) rfl q42 dX6_nextOrder_21 ?_
      refine sw_icmp_le X 31 (by decide) dX6_nextOrder_22 (fun q43 => ?_) (fun q43 => ?_)
      · have h := ite_T h q43
        exact J6  h
      · have h := ite_F h q43
        obtain ⟨x44, ex44⟩ : ∃ y : Int32, y = x2 + (-1) := ⟨_, rfl⟩
        have h := nm_E h ex44
        refine sw_iinc X 2 x44 [(2, .int x44), (0, .ref (g.1 63)), (1, .int a1)] rfl (by rw [ex44]; rfl) (by decide) rfl dX6_nextOrder_25 ?_
        refine sw_goto X 4 (by decide) dX6_nextOrder_28 ?_
        refine sw_sub [1, 2, 0] rfl ?_
        exact ih4 _ h
theorem dX6_order_0 : decode cX6_order 0 = .ok (.iload_n 1, 1) := by decide +kernel
theorem dX6_order_1 : decode cX6_order 1 = .ok (.invokestatic 69, 3) := by decide +kernel
theorem dX6_order_4 : decode cX6_order 4 = .ok (.ifCond .ne 5, 3) := by decide +kernel
theorem dX6_order_7 : decode cX6_order 7 = .ok (.iconst (-1), 1) := by decide +kernel
theorem dX6_order_8 : decode cX6_order 8 = .ok (.ireturn, 1) := by decide +kernel
theorem dX6_order_9 : decode cX6_order 9 = .ok (.aload_n 0, 1) := by decide +kernel
theorem dX6_order_10 : decode cX6_order 10 = .ok (.getfield 136, 3) := by decide +kernel
theorem dX6_order_13 : decode cX6_order 13 = .ok (.ifCond .ne 6, 3) := by decide +kernel
theorem dX6_order_16 : decode cX6_order 16 = .ok (.bipush (-4), 2) := by decide +kernel
theorem dX6_order_18 : decode cX6_order 18 = .ok (.ireturn, 1) := by decide +kernel
theorem dX6_order_19 : decode cX6_order 19 = .ok (.iconst 0, 1) := by decide +kernel
theorem dX6_order_20 : decode cX6_order 20 = .ok (.istore_n 2, 1) := by decide +kernel
theorem dX6_order_21 : decode cX6_order 21 = .ok (.iconst 0, 1) := by decide +kernel
theorem dX6_order_22 : decode cX6_order 22 = .ok (.istore_n 3, 1) := by decide +kernel
theorem dX6_order_23 : decode cX6_order 23 = .ok (.iload_n 3, 1) := by decide +kernel
theorem dX6_order_24 : decode cX6_order 24 = .ok (.aload_n 0, 1) := by decide +kernel
theorem dX6_order_25 : decode cX6_order 25 = .ok (.getfield 136, 3) := by decide +kernel
theorem dX6_order_28 : decode cX6_order 28 = .ok (.if_icmp .ge 30, 3) := by decide +kernel
theorem dX6_order_31 : decode cX6_order 31 = .ok (.aload_n 0, 1) := by decide +kernel
theorem dX6_order_32 : decode cX6_order 32 = .ok (.invokevirtual 201, 3) := by decide +kernel
theorem dX6_order_35 : decode cX6_order 35 = .ok (.iload_n 3, 1) := by decide +kernel
theorem dX6_order_36 : decode cX6_order 36 = .ok (.invokestatic 139, 3) := by decide +kernel
theorem dX6_order_39 : decode cX6_order 39 = .ok (.ifCond .eq 13, 3) := by decide +kernel
theorem dX6_order_42 : decode cX6_order 42 = .ok (.aload_n 0, 1) := by decide +kernel
theorem dX6_order_43 : decode cX6_order 43 = .ok (.getfield 44, 3) := by decide +kernel
theorem dX6_order_46 : decode cX6_order 46 = .ok (.iload_n 2, 1) := by decide +kernel
theorem dX6_order_47 : decode cX6_order 47 = .ok (.iload_n 3, 1) := by decide +kernel
theorem dX6_order_48 : decode cX6_order 48 = .ok (.iastore, 1) := by decide +kernel
theorem dX6_order_49 : decode cX6_order 49 = .ok (.iinc 2 1, 3) := by decide +kernel
theorem dX6_order_52 : decode cX6_order 52 = .ok (.iinc 3 1, 3) := by decide +kernel
theorem dX6_order_55 : decode cX6_order 55 = .ok (.goto (-32), 3) := by decide +kernel
theorem dX6_order_58 : decode cX6_order 58 = .ok (.iconst (-1), 1) := by decide +kernel
theorem dX6_order_59 : decode cX6_order 59 = .ok (.istore_n 3, 1) := by decide +kernel
theorem dX6_order_60 : decode cX6_order 60 = .ok (.iconst 1, 1) := by decide +kernel
theorem dX6_order_61 : decode cX6_order 61 = .ok (.istore 4, 2) := by decide +kernel
theorem dX6_order_63 : decode cX6_order 63 = .ok (.iload 4, 2) := by decide +kernel
theorem dX6_order_65 : decode cX6_order 65 = .ok (.ifCond .eq 107, 3) := by decide +kernel
theorem dX6_order_68 : decode cX6_order 68 = .ok (.aload_n 0, 1) := by decide +kernel
theorem dX6_order_69 : decode cX6_order 69 = .ok (.invokevirtual 187, 3) := by decide +kernel
theorem dX6_order_72 : decode cX6_order 72 = .ok (.iconst 0, 1) := by decide +kernel
theorem dX6_order_73 : decode cX6_order 73 = .ok (.istore 5, 2) := by decide +kernel
theorem dX6_order_75 : decode cX6_order 75 = .ok (.iload 5, 2) := by decide +kernel
theorem dX6_order_77 : decode cX6_order 77 = .ok (.iload_n 2, 1) := by decide +kernel
theorem dX6_order_78 : decode cX6_order 78 = .ok (.if_icmp .ge 23, 3) := by decide +kernel
theorem dX6_order_81 : decode cX6_order 81 = .ok (.aload_n 0, 1) := by decide +kernel
theorem dX6_order_82 : decode cX6_order 82 = .ok (.sipush 828, 3) := by decide +kernel
theorem dX6_order_85 : decode cX6_order 85 = .ok (.aload_n 0, 1) := by decide +kernel
theorem dX6_order_86 : decode cX6_order 86 = .ok (.getfield 44, 3) := by decide +kernel
theorem dX6_order_89 : decode cX6_order 89 = .ok (.iload 5, 2) := by decide +kernel
theorem dX6_order_91 : decode cX6_order 91 = .ok (.iaload, 1) := by decide +kernel
theorem dX6_order_92 : decode cX6_order 92 = .ok (.invokevirtual 152, 3) := by decide +kernel
theorem dX6_order_95 : decode cX6_order 95 = .ok (.iinc 5 1, 3) := by decide +kernel
theorem dX6_order_98 : decode cX6_order 98 = .ok (.goto (-23), 3) := by decide +kernel
theorem dX6_order_101 : decode cX6_order 101 = .ok (.aload_n 0, 1) := by decide +kernel
theorem dX6_order_102 : decode cX6_order 102 = .ok (.getfield 7, 3) := by decide +kernel
theorem dX6_order_105 : decode cX6_order 105 = .ok (.sipush 829, 3) := by decide +kernel
theorem dX6_order_108 : decode cX6_order 108 = .ok (.iaload, 1) := by decide +kernel
theorem dX6_order_109 : decode cX6_order 109 = .ok (.iload_n 3, 1) := by decide +kernel
theorem dX6_order_110 : decode cX6_order 110 = .ok (.if_icmp .le 52, 3) := by decide +kernel
theorem dX6_order_113 : decode cX6_order 113 = .ok (.aload_n 0, 1) := by decide +kernel
theorem dX6_order_114 : decode cX6_order 114 = .ok (.getfield 7, 3) := by decide +kernel
theorem dX6_order_117 : decode cX6_order 117 = .ok (.sipush 829, 3) := by decide +kernel
theorem dX6_order_120 : decode cX6_order 120 = .ok (.iaload, 1) := by decide +kernel
theorem dX6_order_121 : decode cX6_order 121 = .ok (.istore_n 3, 1) := by decide +kernel
theorem dX6_order_122 : decode cX6_order 122 = .ok (.aload_n 0, 1) := by decide +kernel
theorem dX6_order_123 : decode cX6_order 123 = .ok (.iload_n 1, 1) := by decide +kernel
theorem dX6_order_124 : decode cX6_order 124 = .ok (.iload_n 2, 1) := by decide +kernel
theorem dX6_order_125 : decode cX6_order 125 = .ok (.invokevirtual 77, 3) := by decide +kernel
theorem dX6_order_128 : decode cX6_order 128 = .ok (.iconst 0, 1) := by decide +kernel
theorem dX6_order_129 : decode cX6_order 129 = .ok (.istore 5, 2) := by decide +kernel
theorem dX6_order_131 : decode cX6_order 131 = .ok (.iload 5, 2) := by decide +kernel
theorem dX6_order_133 : decode cX6_order 133 = .ok (.iload_n 2, 1) := by decide +kernel
theorem dX6_order_134 : decode cX6_order 134 = .ok (.if_icmp .ge 28, 3) := by decide +kernel
theorem dX6_order_137 : decode cX6_order 137 = .ok (.aload_n 0, 1) := by decide +kernel
theorem dX6_order_138 : decode cX6_order 138 = .ok (.getfield 25, 3) := by decide +kernel
theorem dX6_order_141 : decode cX6_order 141 = .ok (.bipush 40, 2) := by decide +kernel
theorem dX6_order_143 : decode cX6_order 143 = .ok (.iload_n 1, 1) := by decide +kernel
theorem dX6_order_144 : decode cX6_order 144 = .ok (.imul, 1) := by decide +kernel
theorem dX6_order_145 : decode cX6_order 145 = .ok (.iload 5, 2) := by decide +kernel
theorem dX6_order_147 : decode cX6_order 147 = .ok (.iadd, 1) := by decide +kernel
theorem dX6_order_148 : decode cX6_order 148 = .ok (.aload_n 0, 1) := by decide +kernel
theorem dX6_order_149 : decode cX6_order 149 = .ok (.getfield 44, 3) := by decide +kernel
theorem dX6_order_152 : decode cX6_order 152 = .ok (.iload 5, 2) := by decide +kernel
theorem dX6_order_154 : decode cX6_order 154 = .ok (.iaload, 1) := by decide +kernel
theorem dX6_order_155 : decode cX6_order 155 = .ok (.iastore, 1) := by decide +kernel
theorem dX6_order_156 : decode cX6_order 156 = .ok (.iinc 5 1, 3) := by decide +kernel
theorem dX6_order_159 : decode cX6_order 159 = .ok (.goto (-28), 3) := by decide +kernel
theorem dX6_order_162 : decode cX6_order 162 = .ok (.aload_n 0, 1) := by decide +kernel
theorem dX6_order_163 : decode cX6_order 163 = .ok (.iload_n 2, 1) := by decide +kernel
theorem dX6_order_164 : decode cX6_order 164 = .ok (.invokevirtual 210, 3) := by decide +kernel
theorem dX6_order_167 : decode cX6_order 167 = .ok (.istore 4, 2) := by decide +kernel
theorem dX6_order_169 : decode cX6_order 169 = .ok (.goto (-106), 3) := by decide +kernel
theorem dX6_order_172 : decode cX6_order 172 = .ok (.iload_n 3, 1) := by decide +kernel
theorem dX6_order_173 : decode cX6_order 173 = .ok (.ireturn, 1) := by decide +kernel
def j_X6_order (F : Nat) (a1 : Int32) (st : sw_St) : Option (Int32 × sw_St) :=
bo (j_X6_isRow F a1 st) (fun (r2 : Int32) =>
(if r2 = 0 then (
 some (((-1) : Int32), st))
else (
 (if (st.1 63 1) = 0 then (
  some (((-4) : Int32), st))
 else (
  lz3 (fun f8 (x5 : Int32) (x6 : Int32) (s7 : sw_St) =>
   (if (s7.1 63 1) ≤ x6 then (
    lz3 (fun f14 (x11 : Int32) (x12 : Int32) (s13 : sw_St) =>
     (if x12 = 0 then (
      some ((x11 : Int32), s13))
     else (
      bd (j_X6_layTried F s13) (fun (_ : Unit) (s18 : sw_St) =>
      lz2 (fun f21 (x19 : Int32) (s20 : sw_St) =>
       (if x5 ≤ x19 then (
        jn (fun (x25 : Int32) (s26 : sw_St) => 
          bd (j_X6_nextOrder F x5 s26) (fun (r30 : Int32) (s31 : sw_St) =>
          f14 x25 r30 s31)) (fun k27 =>
         (if (s20.1 64 829) ≤ x11 then (
          k27 x11 s20)
         else (
          nm (s20.1 64 829) (fun (x34 : Int32) =>
          bd (j_X6_makeRow F a1 x5 s20) (fun (_ : Unit) (s36 : sw_St) =>
          lz2 (fun f39 (x37 : Int32) (s38 : sw_St) =>
           (if x5 ≤ x37 then (
            k27 x34 s38)
           else (
            bnd x37 6 (
            bnd ((40 * a1) + x37) 240 (
            nm (sw_setC s38 69 (((40 * a1) + x37) : Int32).toNatClampNeg (s38.1 74 (x37 : Int32).toNatClampNeg)) (fun (s44 : sw_St) =>
            nm (x37 + 1) (fun (x45 : Int32) =>
            f39 x45 s44))))))) F 0 s36))))))
       else (
        bnd x19 6 (
        bd (j_X6_comesIn F 828 (s20.1 74 (x19 : Int32).toNatClampNeg) s20) (fun (_ : Unit) (s49 : sw_St) =>
        nm (x19 + 1) (fun (x50 : Int32) =>
        f21 x50 s49)))))) F 0 s18)))) F (-1) 1 s7)
   else (
    bo (j_X6_out F s7) (fun (r54 : Int32) =>
    bo (j_X6_has F r54 x6 s7) (fun (r56 : Int32) =>
    jn (fun (x57 : Int32) (s58 : sw_St) => 
      nm (x6 + 1) (fun (x61 : Int32) =>
      f8 x57 x61 s58)) (fun k59 =>
     (if r56 = 0 then (
      k59 x5 s7)
     else (
      bnd x5 6 (
      nm (sw_setC s7 74 (x5 : Int32).toNatClampNeg x6) (fun (s64 : sw_St) =>
      nm (x5 + 1) (fun (x65 : Int32) =>
      k59 x65 s64))))))))))) F 0 0 st)))))
set_option maxHeartbeats 4000000 in
set_option maxRecDepth 100000 in
theorem c_X6_order (F : Nat) (a1 : Int32) (st : sw_St) {r : Int32} {st1 : sw_St} (h : j_X6_order F a1 st = some (r, st1)) : sw_CI yX6_order (.code yX6_order cX6_order 6 (some .int)) 5 (fun g => [.ref (g.1 63), .int a1]) st r st1 := by
  refine sw_entI RX6 (fun g => [(0, .ref (g.1 63)), (1, .int a1)]) (by decide) rfl (fun _ => Nat.le_of_ble_eq_true rfl) (fun _ => rfl) ?_
  intro p l e s m args below meth c g X hr hlk
  unfold j_X6_order at h
  refine sw_iload_n X 1 rfl rfl dX6_order_0 ?_
  obtain ⟨r2, c1, h⟩ := bo_E h
  refine sw_callSI X (As := (fun g => [.int a1])) ws_X6_isRow (by omega) (c_X6_isRow F a1 st c1) rfl rfl (Nat.le_of_ble_eq_true rfl) wm_X6_69 dX6_order_1 ?_
  refine sw_if_ne X 9 (by decide) dX6_order_4 (fun q3 => ?_) (fun q3 => ?_)
  · have h := ite_F h q3
    refine sw_aload_n X 0 rfl rfl dX6_order_9 ?_
    refine sw_getI X sw_cl6 (show sw_kd 63 = 6 from rfl) (k := 1) rfl (by decide) wf_X6_136 dX6_order_10 ?_
    refine sw_if_ne X 19 (by decide) dX6_order_13 (fun q4 => ?_) (fun q4 => ?_)
    · have h := ite_F h q4
      refine sw_iconst X (v := 0) (by decide) dX6_order_19 ?_
      refine sw_istore_n X [(2, .int 0), (0, .ref (g.1 63)), (1, .int a1)] rfl (by decide) rfl dX6_order_20 ?_
      refine sw_iconst X (v := 0) (by decide) dX6_order_21 ?_
      refine sw_istore_n X [(3, .int 0), (2, .int 0), (0, .ref (g.1 63)), (1, .int a1)] rfl (by decide) rfl dX6_order_22 ?_
      refine sw_sub [2, 3, 1, 0] rfl ?_
      refine lz3_E (fun (x5 : Int32) (x6 : Int32) (s7 : sw_St) => sw_V p l e 5 s m args below meth c g (sw_A g s.heap.size) (sw_QI below g args s r st1) 6 23 [(0, .ref (g.1 63)), (1, .int a1), (2, .int x5), (3, .int x6)] [] s7) h (fun f8 ih9 x5 x6 s7 h => ?_)
      refine sw_iload_n X 3 rfl rfl dX6_order_23 ?_
      refine sw_aload_n X 0 rfl rfl dX6_order_24 ?_
      refine sw_getI X sw_cl6 (show sw_kd 63 = 6 from rfl) (k := 1) rfl (by decide) wf_X6_136 dX6_order_25 ?_
      refine sw_icmp_ge X 58 (by decide) dX6_order_28 (fun q10 => ?_) (fun q10 => ?_)
      · have h := ite_T h q10
        refine sw_iconst X (v := (-1)) (by decide) dX6_order_58 ?_
        refine sw_istore_n X [(3, .int (-1)), (0, .ref (g.1 63)), (1, .int a1), (2, .int x5)] rfl (by decide) rfl dX6_order_59 ?_
        refine sw_iconst X (v := 1) (by decide) dX6_order_60 ?_
        refine sw_istore X [(4, .int 1), (3, .int (-1)), (0, .ref (g.1 63)), (1, .int a1), (2, .int x5)] (by decide) rfl dX6_order_61 ?_
        refine sw_sub [2, 3, 4, 1, 0] rfl ?_
        refine lz3_E (fun (x11 : Int32) (x12 : Int32) (s13 : sw_St) => sw_V p l e 5 s m args below meth c g (sw_A g s.heap.size) (sw_QI below g args s r st1) 6 63 [(0, .ref (g.1 63)), (1, .int a1), (2, .int x5), (3, .int x11), (4, .int x12)] [] s13) h (fun f14 ih15 x11 x12 s13 h => ?_)
        refine sw_iload X 4 rfl dX6_order_63 ?_
        refine sw_if_eq X 172 (by decide) dX6_order_65 (fun q16 => ?_) (fun q16 => ?_)
        · have h := ite_T h q16
          refine sw_iload_n X 3 rfl rfl dX6_order_172 ?_
          exact sw_iret X hr hlk dX6_order_173 h
        · have h := ite_F h q16
          refine sw_aload_n X 0 rfl rfl dX6_order_68 ?_
          obtain ⟨u52, s18, c17, h⟩ := bd_E h
          refine sw_callVV X (o := 63) (As := (fun g => [])) sw_cl6 (show sw_kd 63 = 6 from rfl) ws_X6_layTried (by omega) (c_X6_layTried F s13 c17) rfl rfl (Nat.le_of_ble_eq_true rfl) wm_X6_187 dX6_order_69 ?_
          refine sw_iconst X (v := 0) (by decide) dX6_order_72 ?_
          refine sw_istore X [(5, .int 0), (0, .ref (g.1 63)), (1, .int a1), (2, .int x5), (3, .int x11), (4, .int x12)] (by decide) rfl dX6_order_73 ?_
          refine sw_sub [1, 2, 3, 4, 0] rfl ?_
          refine lz2_E (fun (x19 : Int32) (s20 : sw_St) => sw_V p l e 5 s m args below meth c g (sw_A g s.heap.size) (sw_QI below g args s r st1) 6 75 [(0, .ref (g.1 63)), (1, .int a1), (2, .int x5), (3, .int x11), (5, .int x19)] [] s20) h (fun f21 ih22 x19 s20 h => ?_)
          refine sw_iload X 4 rfl dX6_order_75 ?_
          refine sw_iload_n X 2 rfl rfl dX6_order_77 ?_
          refine sw_icmp_ge X 101 (by decide) dX6_order_78 (fun q23 => ?_) (fun q23 => ?_)
          · have h := ite_T h q23
            refine sw_aload_n X 0 rfl rfl dX6_order_101 ?_
            refine sw_getR X sw_cl6 (show sw_kd 63 = 6 from rfl) (k := 0) rfl (by decide) (o1 := 64) rfl wf_X6_7 dX6_order_102 ?_
            refine sw_sipush X (v := 829) (by decide) dX6_order_105 ?_
            refine sw_iald X (show sw_kd 64 = 8 from rfl) (n := 835) rfl (i := 829) (by unfold vp_in; decide) dX6_order_108 ?_
            refine sw_iload_n X 3 rfl rfl dX6_order_109 ?_
            refine jn2_E (fun (x25 : Int32) (s26 : sw_St) => sw_V p l e 5 s m args below meth c g (sw_A g s.heap.size) (sw_QI below g args s r st1) 6 162 [(0, .ref (g.1 63)), (1, .int a1), (2, .int x5), (3, .int x25)] [] s26) h (fun x25 s26 h => ?_) (fun k27 J28 h => ?_)
            · refine sw_aload_n X 0 rfl rfl dX6_order_162 ?_
              refine sw_iload_n X 2 rfl rfl dX6_order_163 ?_
              obtain ⟨r30, s31, c29, h⟩ := bd_E h
              refine sw_callVI X (o := 63) (As := (fun g => [.int x5])) sw_cl6 (show sw_kd 63 = 6 from rfl) ws_X6_nextOrder (by omega) (c_X6_nextOrder F x5 s26 c29) rfl rfl (Nat.le_of_ble_eq_true rfl) wm_X6_210 dX6_order_164 ?_
              refine sw_istore X [(4, .int r30), (0, .ref (g.1 63)), (1, .int a1), (2, .int x5), (3, .int x25)] (by decide) rfl dX6_order_167 ?_
              refine sw_goto X 63 (by decide) dX6_order_169 ?_
              refine sw_sub [1, 2, 3, 4, 0] rfl ?_
              exact ih15 _ _ _ h
            · refine sw_icmp_le X 162 (by decide) dX6_order_110 (fun q32 => ?_) (fun q32 => ?_)
              · have h := ite_T h q32
                refine sw_sub [0, 1, 2, 3] rfl ?_
                exact J28 _ _ h
              · have h := ite_F h q32
                refine sw_aload_n X 0 rfl rfl dX6_order_113 ?_
                refine sw_getR X sw_cl6 (show sw_kd 63 = 6 from rfl) (k := 0) rfl (by decide) (o1 := 64) rfl wf_X6_7 dX6_order_114 ?_
                refine sw_sipush X (v := 829) (by decide) dX6_order_117 ?_
                refine sw_iald X (show sw_kd 64 = 8 from rfl) (n := 835) rfl (i := 829) (by unfold vp_in; decide) dX6_order_120 ?_
                refine sw_topi (fun x34 ex34 => ?_)
                have h := nm_E h ex34
                refine sw_istore_n X [(3, .int x34), (0, .ref (g.1 63)), (1, .int a1), (2, .int x5), (5, .int x19)] rfl (by decide) rfl dX6_order_121 ?_
                refine sw_aload_n X 1 rfl rfl dX6_order_122 ?_
                refine sw_iload_n X 2 rfl rfl dX6_order_123 ?_
                refine sw_iload_n X 3 rfl rfl dX6_order_124 ?_
                obtain ⟨u46, s36, c35, h⟩ := bd_E h
                refine sw_callVV X (o := 63) (As := (fun g => [.int a1, .int x5])) sw_cl6 (show sw_kd 63 = 6 from rfl) ws_X6_makeRow (by omega) (c_X6_makeRow F a1 x5 s20 c35) rfl rfl (Nat.le_of_ble_eq_true rfl) wm_X6_77 dX6_order_125 ?_
                refine sw_iconst X (v := 0) (by decide) dX6_order_128 ?_
                refine sw_istore X [(5, .int 0), (3, .int x34), (0, .ref (g.1 63)), (1, .int a1), (2, .int x5)] (by decide) rfl dX6_order_129 ?_
                refine sw_sub [2, 3, 4, 1, 0] rfl ?_
                refine lz2_E (fun (x37 : Int32) (s38 : sw_St) => sw_V p l e 5 s m args below meth c g (sw_A g s.heap.size) (sw_QI below g args s r st1) 6 131 [(0, .ref (g.1 63)), (1, .int a1), (2, .int x5), (3, .int x34), (5, .int x37)] [] s38) h (fun f39 ih40 x37 s38 h => ?_)
                refine sw_iload X 4 rfl dX6_order_131 ?_
                refine sw_iload_n X 2 rfl rfl dX6_order_133 ?_
                refine sw_icmp_ge X 162 (by decide) dX6_order_134 (fun q41 => ?_) (fun q41 => ?_)
                · have h := ite_T h q41
                  refine sw_sub [0, 1, 2, 3] rfl ?_
                  exact J28 _ _ h
                · have h := ite_F h q41
                  refine sw_aload_n X 0 rfl rfl dX6_order_137 ?_
                  refine sw_getR X sw_cl6 (show sw_kd 63 = 6 from rfl) (k := 6) rfl (by decide) (o1 := 69) rfl wf_X6_25 dX6_order_138 ?_
                  refine sw_bipush X (v := 40) (by decide) dX6_order_141 ?_
                  refine sw_iload_n X 1 rfl rfl dX6_order_143 ?_
                  refine sw_imul X dX6_order_144 ?_
                  refine sw_iload X 4 rfl dX6_order_145 ?_
                  refine sw_iadd X dX6_order_147 ?_
                  refine sw_aload_n X 0 rfl rfl dX6_order_148 ?_
                  refine sw_getR X sw_cl6 (show sw_kd 63 = 6 from rfl) (k := 22) rfl (by decide) (o1 := 74) rfl wf_X6_44 dX6_order_149 ?_
                  refine sw_iload X 4 rfl dX6_order_152 ?_
                  obtain ⟨q42, h⟩ := bnd_E h
                  refine sw_iald X (show sw_kd 74 = 8 from rfl) (n := 6) rfl q42 dX6_order_154 ?_
                  obtain ⟨q43, h⟩ := bnd_E h
                  refine sw_iast X (show sw_kd 69 = 8 from rfl) (n := 240) rfl q43 dX6_order_155 (fun s44 es44 => ?_)
                  have h := nm_E h es44
                  obtain ⟨x45, ex45⟩ : ∃ y : Int32, y = x37 + 1 := ⟨_, rfl⟩
                  have h := nm_E h ex45
                  refine sw_iinc X 4 x45 [(5, .int x45), (0, .ref (g.1 63)), (1, .int a1), (2, .int x5), (3, .int x34)] rfl (by rw [ex45]; rfl) (by decide) rfl dX6_order_156 ?_
                  refine sw_goto X 131 (by decide) dX6_order_159 ?_
                  refine sw_sub [1, 2, 3, 4, 0] rfl ?_
                  exact ih40 _ _ h
          · have h := ite_F h q23
            refine sw_aload_n X 0 rfl rfl dX6_order_81 ?_
            refine sw_sipush X (v := 828) (by decide) dX6_order_82 ?_
            refine sw_aload_n X 0 rfl rfl dX6_order_85 ?_
            refine sw_getR X sw_cl6 (show sw_kd 63 = 6 from rfl) (k := 22) rfl (by decide) (o1 := 74) rfl wf_X6_44 dX6_order_86 ?_
            refine sw_iload X 4 rfl dX6_order_89 ?_
            obtain ⟨q47, h⟩ := bnd_E h
            refine sw_iald X (show sw_kd 74 = 8 from rfl) (n := 6) rfl q47 dX6_order_91 ?_
            obtain ⟨u51, s49, c48, h⟩ := bd_E h
            refine sw_callVV X (o := 63) (As := (fun g => [.int 828, .int (s20.1 74 (x19 : Int32).toNatClampNeg)])) sw_cl6 (show sw_kd 63 = 6 from rfl) ws_X6_comesIn (by omega) (c_X6_comesIn F 828 (s20.1 74 (x19 : Int32).toNatClampNeg) s20 c48) rfl rfl (Nat.le_of_ble_eq_true rfl) wm_X6_152 dX6_order_92 ?_
            obtain ⟨x50, ex50⟩ : ∃ y : Int32, y = x19 + 1 := ⟨_, rfl⟩
            have h := nm_E h ex50
            refine sw_iinc X 4 x50 [(5, .int x50), (0, .ref (g.1 63)), (1, .int a1), (2, .int x5), (3, .int x11)] rfl (by rw [ex50]; rfl) (by decide) rfl dX6_order_95 ?_
            refine sw_goto X 75 (by decide) dX6_order_98 ?_
            refine sw_sub [1, 2, 3, 4, 0] rfl ?_
            exact ih22 _ _ h
      · have h := ite_F h q10
        refine sw_aload_n X 0 rfl rfl dX6_order_31 ?_
        obtain ⟨r54, c53, h⟩ := bo_E h
        refine sw_callVI X (o := 63) (As := (fun g => [])) sw_cl6 (show sw_kd 63 = 6 from rfl) ws_X6_out (by omega) (c_X6_out F s7 c53) rfl rfl (Nat.le_of_ble_eq_true rfl) wm_X6_201 dX6_order_32 ?_
        refine sw_iload_n X 3 rfl rfl dX6_order_35 ?_
        obtain ⟨r56, c55, h⟩ := bo_E h
        refine sw_callSI X (As := (fun g => [.int r54, .int x6])) ws_X6_has (by omega) (c_X6_has F r54 x6 s7 c55) rfl rfl (Nat.le_of_ble_eq_true rfl) wm_X6_139 dX6_order_36 ?_
        refine jn2_E (fun (x57 : Int32) (s58 : sw_St) => sw_V p l e 5 s m args below meth c g (sw_A g s.heap.size) (sw_QI below g args s r st1) 6 52 [(0, .ref (g.1 63)), (1, .int a1), (2, .int x57), (3, .int x6)] [] s58) h (fun x57 s58 h => ?_) (fun k59 J60 h => ?_)
        · obtain ⟨x61, ex61⟩ : ∃ y : Int32, y = x6 + 1 := ⟨_, rfl⟩
          have h := nm_E h ex61
          refine sw_iinc X 3 x61 [(3, .int x61), (0, .ref (g.1 63)), (1, .int a1), (2, .int x57)] rfl (by rw [ex61]; rfl) (by decide) rfl dX6_order_52 ?_
          refine sw_goto X 23 (by decide) dX6_order_55 ?_
          refine sw_sub [1, 2, 3, 0] rfl ?_
          exact ih9 _ _ _ h
        · refine sw_if_eq X 52 (by decide) dX6_order_39 (fun q62 => ?_) (fun q62 => ?_)
          · have h := ite_T h q62
            exact J60 _ _ h
          · have h := ite_F h q62
            refine sw_aload_n X 0 rfl rfl dX6_order_42 ?_
            refine sw_getR X sw_cl6 (show sw_kd 63 = 6 from rfl) (k := 22) rfl (by decide) (o1 := 74) rfl wf_X6_44 dX6_order_43 ?_
            refine sw_iload_n X 2 rfl rfl dX6_order_46 ?_
            refine sw_iload_n X 3 rfl rfl dX6_order_47 ?_
            obtain ⟨q63, h⟩ := bnd_E h
            refine sw_iast X (show sw_kd 74 = 8 from rfl) (n := 6) rfl q63 dX6_order_48 (fun s64 es64 => ?_)
            have h := nm_E h es64
            obtain ⟨x65, ex65⟩ : ∃ y : Int32, y = x5 + 1 := ⟨_, rfl⟩
            have h := nm_E h ex65
            refine sw_iinc X 2 x65 [(2, .int x65), (0, .ref (g.1 63)), (1, .int a1), (3, .int x6)] rfl (by rw [ex65]; rfl) (by decide) rfl dX6_order_49 ?_
            refine sw_sub [1, 2, 0, 3] rfl ?_
            exact J60 _ _ h
    · have h := ite_T h q4
      refine sw_bipush X (v := (-4)) (by decide) dX6_order_16 ?_
      exact sw_iret X hr hlk dX6_order_18 h
  · have h := ite_T h q3
    refine sw_iconst X (v := (-1)) (by decide) dX6_order_7 ?_
    exact sw_iret X hr hlk dX6_order_8 h
theorem dX6_power_0 : decode cX6_power 0 = .ok (.iconst 1, 1) := by decide +kernel
theorem dX6_power_1 : decode cX6_power 1 = .ok (.istore_n 2, 1) := by decide +kernel
theorem dX6_power_2 : decode cX6_power 2 = .ok (.iconst 0, 1) := by decide +kernel
theorem dX6_power_3 : decode cX6_power 3 = .ok (.istore_n 3, 1) := by decide +kernel
theorem dX6_power_4 : decode cX6_power 4 = .ok (.iload_n 3, 1) := by decide +kernel
theorem dX6_power_5 : decode cX6_power 5 = .ok (.iload_n 1, 1) := by decide +kernel
theorem dX6_power_6 : decode cX6_power 6 = .ok (.if_icmp .ge 18, 3) := by decide +kernel
theorem dX6_power_9 : decode cX6_power 9 = .ok (.iload_n 2, 1) := by decide +kernel
theorem dX6_power_10 : decode cX6_power 10 = .ok (.aload_n 0, 1) := by decide +kernel
theorem dX6_power_11 : decode cX6_power 11 = .ok (.getfield 136, 3) := by decide +kernel
theorem dX6_power_14 : decode cX6_power 14 = .ok (.iconst 1, 1) := by decide +kernel
theorem dX6_power_15 : decode cX6_power 15 = .ok (.iadd, 1) := by decide +kernel
theorem dX6_power_16 : decode cX6_power 16 = .ok (.imul, 1) := by decide +kernel
theorem dX6_power_17 : decode cX6_power 17 = .ok (.istore_n 2, 1) := by decide +kernel
theorem dX6_power_18 : decode cX6_power 18 = .ok (.iinc 3 1, 3) := by decide +kernel
theorem dX6_power_21 : decode cX6_power 21 = .ok (.goto (-17), 3) := by decide +kernel
theorem dX6_power_24 : decode cX6_power 24 = .ok (.iload_n 2, 1) := by decide +kernel
theorem dX6_power_25 : decode cX6_power 25 = .ok (.ireturn, 1) := by decide +kernel
def j_X6_power (F : Nat) (a1 : Int32) (st : sw_St) : Option Int32 :=
lz2 (fun f3 (x1 : Int32) (x2 : Int32) =>
 (if a1 ≤ x2 then (
  some (x1 : Int32))
 else (
  nm (x1 * ((st.1 63 1) + 1)) (fun (x6 : Int32) =>
  nm (x2 + 1) (fun (x7 : Int32) =>
  f3 x6 x7))))) F 1 0
set_option maxHeartbeats 4000000 in
set_option maxRecDepth 100000 in
theorem c_X6_power (F : Nat) (a1 : Int32) (st : sw_St) {r : Int32} (h : j_X6_power F a1 st = some r) : sw_CI yX6_power (.code yX6_power cX6_power 4 (some .int)) 1 (fun g => [.ref (g.1 63), .int a1]) st r st := by
  refine sw_entI RX6 (fun g => [(0, .ref (g.1 63)), (1, .int a1)]) (by decide) rfl (fun _ => Nat.le_of_ble_eq_true rfl) (fun _ => rfl) ?_
  intro p l e s m args below meth c g X hr hlk
  unfold j_X6_power at h
  refine sw_iconst X (v := 1) (by decide) dX6_power_0 ?_
  refine sw_istore_n X [(2, .int 1), (0, .ref (g.1 63)), (1, .int a1)] rfl (by decide) rfl dX6_power_1 ?_
  refine sw_iconst X (v := 0) (by decide) dX6_power_2 ?_
  refine sw_istore_n X [(3, .int 0), (2, .int 1), (0, .ref (g.1 63)), (1, .int a1)] rfl (by decide) rfl dX6_power_3 ?_
  refine sw_sub [2, 3, 1, 0] rfl ?_
  refine lz2_E (fun (x1 : Int32) (x2 : Int32) => sw_V p l e 1 s m args below meth c g (sw_A g s.heap.size) (sw_QI below g args s r st) 4 4 [(0, .ref (g.1 63)), (1, .int a1), (2, .int x1), (3, .int x2)] [] st) h (fun f3 ih4 x1 x2 h => ?_)
  refine sw_iload_n X 3 rfl rfl dX6_power_4 ?_
  refine sw_iload_n X 1 rfl rfl dX6_power_5 ?_
  refine sw_icmp_ge X 24 (by decide) dX6_power_6 (fun q5 => ?_) (fun q5 => ?_)
  · have h := ite_T h q5
    refine sw_iload_n X 2 rfl rfl dX6_power_24 ?_
    exact sw_iret X hr hlk dX6_power_25 (by cases h; rfl)
  · have h := ite_F h q5
    refine sw_iload_n X 2 rfl rfl dX6_power_9 ?_
    refine sw_aload_n X 0 rfl rfl dX6_power_10 ?_
    refine sw_getI X sw_cl6 (show sw_kd 63 = 6 from rfl) (k := 1) rfl (by decide) wf_X6_136 dX6_power_11 ?_
    refine sw_iconst X (v := 1) (by decide) dX6_power_14 ?_
    refine sw_iadd X dX6_power_15 ?_
    refine sw_imul X dX6_power_16 ?_
    refine sw_topi (fun x6 ex6 => ?_)
    have h := nm_E h ex6
    refine sw_istore_n X [(2, .int x6), (0, .ref (g.1 63)), (1, .int a1), (3, .int x2)] rfl (by decide) rfl dX6_power_17 ?_
    obtain ⟨x7, ex7⟩ : ∃ y : Int32, y = x2 + 1 := ⟨_, rfl⟩
    have h := nm_E h ex7
    refine sw_iinc X 3 x7 [(3, .int x7), (2, .int x6), (0, .ref (g.1 63)), (1, .int a1)] rfl (by rw [ex7]; rfl) (by decide) rfl dX6_power_18 ?_
    refine sw_goto X 4 (by decide) dX6_power_21 ?_
    refine sw_sub [2, 3, 1, 0] rfl ?_
    exact ih4 _ _ h
theorem dX6_whoOf_0 : decode cX6_whoOf 0 = .ok (.iload_n 1, 1) := by decide +kernel
theorem dX6_whoOf_1 : decode cX6_whoOf 1 = .ok (.aload_n 0, 1) := by decide +kernel
theorem dX6_whoOf_2 : decode cX6_whoOf 2 = .ok (.iload_n 2, 1) := by decide +kernel
theorem dX6_whoOf_3 : decode cX6_whoOf 3 = .ok (.iconst 1, 1) := by decide +kernel
theorem dX6_whoOf_4 : decode cX6_whoOf 4 = .ok (.isub, 1) := by decide +kernel
theorem dX6_whoOf_5 : decode cX6_whoOf 5 = .ok (.iload_n 3, 1) := by decide +kernel
theorem dX6_whoOf_6 : decode cX6_whoOf 6 = .ok (.isub, 1) := by decide +kernel
theorem dX6_whoOf_7 : decode cX6_whoOf 7 = .ok (.invokevirtual 213, 3) := by decide +kernel
theorem dX6_whoOf_10 : decode cX6_whoOf 10 = .ok (.idiv, 1) := by decide +kernel
theorem dX6_whoOf_11 : decode cX6_whoOf 11 = .ok (.aload_n 0, 1) := by decide +kernel
theorem dX6_whoOf_12 : decode cX6_whoOf 12 = .ok (.getfield 136, 3) := by decide +kernel
theorem dX6_whoOf_15 : decode cX6_whoOf 15 = .ok (.iconst 1, 1) := by decide +kernel
theorem dX6_whoOf_16 : decode cX6_whoOf 16 = .ok (.iadd, 1) := by decide +kernel
theorem dX6_whoOf_17 : decode cX6_whoOf 17 = .ok (.irem, 1) := by decide +kernel
theorem dX6_whoOf_18 : decode cX6_whoOf 18 = .ok (.istore 4, 2) := by decide +kernel
theorem dX6_whoOf_20 : decode cX6_whoOf 20 = .ok (.iload 4, 2) := by decide +kernel
theorem dX6_whoOf_22 : decode cX6_whoOf 22 = .ok (.ifCond .ne 8, 3) := by decide +kernel
theorem dX6_whoOf_25 : decode cX6_whoOf 25 = .ok (.bipush (-9), 2) := by decide +kernel
theorem dX6_whoOf_27 : decode cX6_whoOf 27 = .ok (.goto 7, 3) := by decide +kernel
theorem dX6_whoOf_30 : decode cX6_whoOf 30 = .ok (.iload 4, 2) := by decide +kernel
theorem dX6_whoOf_32 : decode cX6_whoOf 32 = .ok (.iconst 1, 1) := by decide +kernel
theorem dX6_whoOf_33 : decode cX6_whoOf 33 = .ok (.isub, 1) := by decide +kernel
theorem dX6_whoOf_34 : decode cX6_whoOf 34 = .ok (.ireturn, 1) := by decide +kernel
def j_X6_whoOf (F : Nat) (a1 : Int32) (a2 : Int32) (a3 : Int32) (st : sw_St) : Option Int32 :=
bo (j_X6_power F ((a2 - 1) - a3) st) (fun (r2 : Int32) =>
grd (¬ r2 = 0) (
grd (¬ ((st.1 63 1) + 1) = 0) (
nm ((a1 / r2) - (a1 / r2) / ((st.1 63 1) + 1) * ((st.1 63 1) + 1)) (fun (x5 : Int32) =>
jn (fun (x6 : Int32) => 
  some (x6 : Int32)) (fun k7 =>
 (if x5 = 0 then (
  k7 (-9))
 else (
  k7 (x5 - 1))))))))
set_option maxHeartbeats 4000000 in
set_option maxRecDepth 100000 in
theorem c_X6_whoOf (F : Nat) (a1 : Int32) (a2 : Int32) (a3 : Int32) (st : sw_St) {r : Int32} (h : j_X6_whoOf F a1 a2 a3 st = some r) : sw_CI yX6_whoOf (.code yX6_whoOf cX6_whoOf 5 (some .int)) 2 (fun g => [.ref (g.1 63), .int a1, .int a2, .int a3]) st r st := by
  refine sw_entI RX6 (fun g => [(0, .ref (g.1 63)), (1, .int a1), (2, .int a2), (3, .int a3)]) (by decide) rfl (fun _ => Nat.le_of_ble_eq_true rfl) (fun _ => rfl) ?_
  intro p l e s m args below meth c g X hr hlk
  unfold j_X6_whoOf at h
  refine sw_iload_n X 1 rfl rfl dX6_whoOf_0 ?_
  refine sw_aload_n X 0 rfl rfl dX6_whoOf_1 ?_
  refine sw_iload_n X 2 rfl rfl dX6_whoOf_2 ?_
  refine sw_iconst X (v := 1) (by decide) dX6_whoOf_3 ?_
  refine sw_isub X dX6_whoOf_4 ?_
  refine sw_iload_n X 3 rfl rfl dX6_whoOf_5 ?_
  refine sw_isub X dX6_whoOf_6 ?_
  obtain ⟨r2, c1, h⟩ := bo_E h
  refine sw_callVI X (o := 63) (As := (fun g => [.int ((a2 - 1) - a3)])) sw_cl6 (show sw_kd 63 = 6 from rfl) ws_X6_power (by omega) (c_X6_power F ((a2 - 1) - a3) st c1) rfl rfl (Nat.le_of_ble_eq_true rfl) wm_X6_213 dX6_whoOf_7 ?_
  obtain ⟨q3, h⟩ := grd_E h
  refine sw_idiv X q3 dX6_whoOf_10 ?_
  refine sw_aload_n X 0 rfl rfl dX6_whoOf_11 ?_
  refine sw_getI X sw_cl6 (show sw_kd 63 = 6 from rfl) (k := 1) rfl (by decide) wf_X6_136 dX6_whoOf_12 ?_
  refine sw_iconst X (v := 1) (by decide) dX6_whoOf_15 ?_
  refine sw_iadd X dX6_whoOf_16 ?_
  obtain ⟨q4, h⟩ := grd_E h
  refine sw_irem X q4 dX6_whoOf_17 ?_
  refine sw_topi (fun x5 ex5 => ?_)
  have h := nm_E h ex5
  refine sw_istore X [(4, .int x5), (0, .ref (g.1 63)), (1, .int a1), (2, .int a2), (3, .int a3)] (by decide) rfl dX6_whoOf_18 ?_
  refine sw_iload X 0 rfl dX6_whoOf_20 ?_
  refine jn1_E (fun (x6 : Int32) => sw_V p l e 2 s m args below meth c g (sw_A g s.heap.size) (sw_QI below g args s r st) 5 34 [] [.int x6] st) h (fun x6 h => ?_) (fun k7 J8 h => ?_)
  · exact sw_iret X hr hlk dX6_whoOf_34 (by cases h; rfl)
  · refine sw_if_ne X 30 (by decide) dX6_whoOf_22 (fun q9 => ?_) (fun q9 => ?_)
    · have h := ite_F h q9
      refine sw_iload X 0 rfl dX6_whoOf_30 ?_
      refine sw_iconst X (v := 1) (by decide) dX6_whoOf_32 ?_
      refine sw_isub X dX6_whoOf_33 ?_
      refine sw_sub [] rfl ?_
      exact J8 _ h
    · have h := ite_T h q9
      refine sw_bipush X (v := (-9)) (by decide) dX6_whoOf_25 ?_
      refine sw_goto X 34 (by decide) dX6_whoOf_27 ?_
      refine sw_sub [] rfl ?_
      exact J8 _ h
theorem dX6_isLetting_0 : decode cX6_isLetting 0 = .ok (.aload_n 0, 1) := by decide +kernel
theorem dX6_isLetting_1 : decode cX6_isLetting 1 = .ok (.invokevirtual 187, 3) := by decide +kernel
theorem dX6_isLetting_4 : decode cX6_isLetting 4 = .ok (.aload_n 0, 1) := by decide +kernel
theorem dX6_isLetting_5 : decode cX6_isLetting 5 = .ok (.iconst 0, 1) := by decide +kernel
theorem dX6_isLetting_6 : decode cX6_isLetting 6 = .ok (.putfield 216, 3) := by decide +kernel
theorem dX6_isLetting_9 : decode cX6_isLetting 9 = .ok (.aload_n 0, 1) := by decide +kernel
theorem dX6_isLetting_10 : decode cX6_isLetting 10 = .ok (.iconst 0, 1) := by decide +kernel
theorem dX6_isLetting_11 : decode cX6_isLetting 11 = .ok (.putfield 219, 3) := by decide +kernel
theorem dX6_isLetting_14 : decode cX6_isLetting 14 = .ok (.aload_n 0, 1) := by decide +kernel
theorem dX6_isLetting_15 : decode cX6_isLetting 15 = .ok (.iconst 0, 1) := by decide +kernel
theorem dX6_isLetting_16 : decode cX6_isLetting 16 = .ok (.putfield 222, 3) := by decide +kernel
theorem dX6_isLetting_19 : decode cX6_isLetting 19 = .ok (.iconst 0, 1) := by decide +kernel
theorem dX6_isLetting_20 : decode cX6_isLetting 20 = .ok (.istore_n 3, 1) := by decide +kernel
theorem dX6_isLetting_21 : decode cX6_isLetting 21 = .ok (.iload_n 3, 1) := by decide +kernel
theorem dX6_isLetting_22 : decode cX6_isLetting 22 = .ok (.iload_n 2, 1) := by decide +kernel
theorem dX6_isLetting_23 : decode cX6_isLetting 23 = .ok (.if_icmp .ge 98, 3) := by decide +kernel
theorem dX6_isLetting_26 : decode cX6_isLetting 26 = .ok (.aload_n 0, 1) := by decide +kernel
theorem dX6_isLetting_27 : decode cX6_isLetting 27 = .ok (.iload_n 1, 1) := by decide +kernel
theorem dX6_isLetting_28 : decode cX6_isLetting 28 = .ok (.iload_n 2, 1) := by decide +kernel
theorem dX6_isLetting_29 : decode cX6_isLetting 29 = .ok (.iload_n 3, 1) := by decide +kernel
theorem dX6_isLetting_30 : decode cX6_isLetting 30 = .ok (.invokevirtual 225, 3) := by decide +kernel
theorem dX6_isLetting_33 : decode cX6_isLetting 33 = .ok (.istore 4, 2) := by decide +kernel
theorem dX6_isLetting_35 : decode cX6_isLetting 35 = .ok (.iload 4, 2) := by decide +kernel
theorem dX6_isLetting_37 : decode cX6_isLetting 37 = .ok (.bipush (-9), 2) := by decide +kernel
theorem dX6_isLetting_39 : decode cX6_isLetting 39 = .ok (.if_icmp .eq 52, 3) := by decide +kernel
theorem dX6_isLetting_42 : decode cX6_isLetting 42 = .ok (.aload_n 0, 1) := by decide +kernel
theorem dX6_isLetting_43 : decode cX6_isLetting 43 = .ok (.sipush 828, 3) := by decide +kernel
theorem dX6_isLetting_46 : decode cX6_isLetting 46 = .ok (.iload 4, 2) := by decide +kernel
theorem dX6_isLetting_48 : decode cX6_isLetting 48 = .ok (.invokevirtual 167, 3) := by decide +kernel
theorem dX6_isLetting_51 : decode cX6_isLetting 51 = .ok (.ifCond .eq 5, 3) := by decide +kernel
theorem dX6_isLetting_54 : decode cX6_isLetting 54 = .ok (.iconst 0, 1) := by decide +kernel
theorem dX6_isLetting_55 : decode cX6_isLetting 55 = .ok (.ireturn, 1) := by decide +kernel
theorem dX6_isLetting_56 : decode cX6_isLetting 56 = .ok (.aload_n 0, 1) := by decide +kernel
theorem dX6_isLetting_57 : decode cX6_isLetting 57 = .ok (.sipush 828, 3) := by decide +kernel
theorem dX6_isLetting_60 : decode cX6_isLetting 60 = .ok (.iload 4, 2) := by decide +kernel
theorem dX6_isLetting_62 : decode cX6_isLetting 62 = .ok (.invokevirtual 152, 3) := by decide +kernel
theorem dX6_isLetting_65 : decode cX6_isLetting 65 = .ok (.aload_n 0, 1) := by decide +kernel
theorem dX6_isLetting_66 : decode cX6_isLetting 66 = .ok (.dup, 1) := by decide +kernel
theorem dX6_isLetting_67 : decode cX6_isLetting 67 = .ok (.getfield 216, 3) := by decide +kernel
theorem dX6_isLetting_70 : decode cX6_isLetting 70 = .ok (.aload_n 0, 1) := by decide +kernel
theorem dX6_isLetting_71 : decode cX6_isLetting 71 = .ok (.getfield 19, 3) := by decide +kernel
theorem dX6_isLetting_74 : decode cX6_isLetting 74 = .ok (.iload 4, 2) := by decide +kernel
theorem dX6_isLetting_76 : decode cX6_isLetting 76 = .ok (.iaload, 1) := by decide +kernel
theorem dX6_isLetting_77 : decode cX6_isLetting 77 = .ok (.iadd, 1) := by decide +kernel
theorem dX6_isLetting_78 : decode cX6_isLetting 78 = .ok (.putfield 216, 3) := by decide +kernel
theorem dX6_isLetting_81 : decode cX6_isLetting 81 = .ok (.aload_n 0, 1) := by decide +kernel
theorem dX6_isLetting_82 : decode cX6_isLetting 82 = .ok (.dup, 1) := by decide +kernel
theorem dX6_isLetting_83 : decode cX6_isLetting 83 = .ok (.getfield 219, 3) := by decide +kernel
theorem dX6_isLetting_86 : decode cX6_isLetting 86 = .ok (.iconst 1, 1) := by decide +kernel
theorem dX6_isLetting_87 : decode cX6_isLetting 87 = .ok (.iadd, 1) := by decide +kernel
theorem dX6_isLetting_88 : decode cX6_isLetting 88 = .ok (.putfield 219, 3) := by decide +kernel
theorem dX6_isLetting_91 : decode cX6_isLetting 91 = .ok (.aload_n 0, 1) := by decide +kernel
theorem dX6_isLetting_92 : decode cX6_isLetting 92 = .ok (.dup, 1) := by decide +kernel
theorem dX6_isLetting_93 : decode cX6_isLetting 93 = .ok (.getfield 222, 3) := by decide +kernel
theorem dX6_isLetting_96 : decode cX6_isLetting 96 = .ok (.aload_n 0, 1) := by decide +kernel
theorem dX6_isLetting_97 : decode cX6_isLetting 97 = .ok (.sipush 828, 3) := by decide +kernel
theorem dX6_isLetting_100 : decode cX6_isLetting 100 = .ok (.invokevirtual 176, 3) := by decide +kernel
theorem dX6_isLetting_103 : decode cX6_isLetting 103 = .ok (.ifCond .le 7, 3) := by decide +kernel
theorem dX6_isLetting_106 : decode cX6_isLetting 106 = .ok (.iconst 1, 1) := by decide +kernel
theorem dX6_isLetting_107 : decode cX6_isLetting 107 = .ok (.goto 4, 3) := by decide +kernel
theorem dX6_isLetting_110 : decode cX6_isLetting 110 = .ok (.iconst 0, 1) := by decide +kernel
theorem dX6_isLetting_111 : decode cX6_isLetting 111 = .ok (.iadd, 1) := by decide +kernel
theorem dX6_isLetting_112 : decode cX6_isLetting 112 = .ok (.putfield 222, 3) := by decide +kernel
theorem dX6_isLetting_115 : decode cX6_isLetting 115 = .ok (.iinc 3 1, 3) := by decide +kernel
theorem dX6_isLetting_118 : decode cX6_isLetting 118 = .ok (.goto (-97), 3) := by decide +kernel
theorem dX6_isLetting_121 : decode cX6_isLetting 121 = .ok (.iconst 1, 1) := by decide +kernel
theorem dX6_isLetting_122 : decode cX6_isLetting 122 = .ok (.ireturn, 1) := by decide +kernel
def j_X6_isLetting (F : Nat) (a1 : Int32) (a2 : Int32) (st : sw_St) : Option (Int32 × sw_St) :=
bd (j_X6_layTried F st) (fun (_ : Unit) (s2 : sw_St) =>
nm (sw_setC s2 63 23 0) (fun (s3 : sw_St) =>
nm (sw_setC s3 63 24 0) (fun (s4 : sw_St) =>
nm (sw_setC s4 63 25 0) (fun (s5 : sw_St) =>
lz2 (fun f8 (x6 : Int32) (s7 : sw_St) =>
 (if a2 ≤ x6 then (
  some ((1 : Int32), s7))
 else (
  bo (j_X6_whoOf F a1 a2 x6 s7) (fun (r12 : Int32) =>
  jn (fun (s13 : sw_St) => 
    bd (j_X6_pass F 828 s13) (fun (r17 : Int32) (s18 : sw_St) =>
    jn (fun (x19 : Int32) => 
      nm (sw_setC s18 63 25 ((s13.1 63 25) + x19)) (fun (s22 : sw_St) =>
      nm (x6 + 1) (fun (x23 : Int32) =>
      f8 x23 s22))) (fun k20 =>
     (if r17 ≤ 0 then (
      k20 0)
     else (
      k20 1))))) (fun k14 =>
   (if r12 = (-9) then (
    k14 s7)
   else (
    bo (j_X6_isIn F 828 r12 s7) (fun (r27 : Int32) =>
    (if r27 = 0 then (
     bd (j_X6_comesIn F 828 r12 s7) (fun (_ : Unit) (s30 : sw_St) =>
     bnd r12 6 (
     nm (sw_setC s30 63 23 ((s30.1 63 23) + (s30.1 67 (r12 : Int32).toNatClampNeg))) (fun (s32 : sw_St) =>
     nm (sw_setC s32 63 24 ((s32.1 63 24) + 1)) (fun (s33 : sw_St) =>
     k14 s33)))))
    else (
     some ((0 : Int32), s7))))))))))) F 0 s5))))
set_option maxHeartbeats 4000000 in
set_option maxRecDepth 100000 in
theorem c_X6_isLetting (F : Nat) (a1 : Int32) (a2 : Int32) (st : sw_St) {r : Int32} {st1 : sw_St} (h : j_X6_isLetting F a1 a2 st = some (r, st1)) : sw_CI yX6_isLetting (.code yX6_isLetting cX6_isLetting 5 (some .boolean)) 5 (fun g => [.ref (g.1 63), .int a1, .int a2]) st r st1 := by
  refine sw_entI RX6 (fun g => [(0, .ref (g.1 63)), (1, .int a1), (2, .int a2)]) (by decide) rfl (fun _ => Nat.le_of_ble_eq_true rfl) (fun _ => rfl) ?_
  intro p l e s m args below meth c g X hr hlk
  unfold j_X6_isLetting at h
  refine sw_aload_n X 0 rfl rfl dX6_isLetting_0 ?_
  obtain ⟨u35, s2, c1, h⟩ := bd_E h
  refine sw_callVV X (o := 63) (As := (fun g => [])) sw_cl6 (show sw_kd 63 = 6 from rfl) ws_X6_layTried (by omega) (c_X6_layTried F st c1) rfl rfl (Nat.le_of_ble_eq_true rfl) wm_X6_187 dX6_isLetting_1 ?_
  refine sw_aload_n X 0 rfl rfl dX6_isLetting_4 ?_
  refine sw_iconst X (v := 0) (by decide) dX6_isLetting_5 ?_
  refine sw_putI X sw_cl6 (show sw_kd 63 = 6 from rfl) (k := 23) rfl (by decide) rfl rfl wf_X6_216 dX6_isLetting_6 (fun s3 es3 => ?_)
  have h := nm_E h es3
  refine sw_aload_n X 0 rfl rfl dX6_isLetting_9 ?_
  refine sw_iconst X (v := 0) (by decide) dX6_isLetting_10 ?_
  refine sw_putI X sw_cl6 (show sw_kd 63 = 6 from rfl) (k := 24) rfl (by decide) rfl rfl wf_X6_219 dX6_isLetting_11 (fun s4 es4 => ?_)
  have h := nm_E h es4
  refine sw_aload_n X 0 rfl rfl dX6_isLetting_14 ?_
  refine sw_iconst X (v := 0) (by decide) dX6_isLetting_15 ?_
  refine sw_putI X sw_cl6 (show sw_kd 63 = 6 from rfl) (k := 25) rfl (by decide) rfl rfl wf_X6_222 dX6_isLetting_16 (fun s5 es5 => ?_)
  have h := nm_E h es5
  refine sw_iconst X (v := 0) (by decide) dX6_isLetting_19 ?_
  refine sw_istore_n X [(3, .int 0), (0, .ref (g.1 63)), (1, .int a1), (2, .int a2)] rfl (by decide) rfl dX6_isLetting_20 ?_
  refine sw_sub [1, 2, 3, 0] rfl ?_
  refine lz2_E (fun (x6 : Int32) (s7 : sw_St) => sw_V p l e 5 s m args below meth c g (sw_A g s.heap.size) (sw_QI below g args s r st1) 5 21 [(0, .ref (g.1 63)), (1, .int a1), (2, .int a2), (3, .int x6)] [] s7) h (fun f8 ih9 x6 s7 h => ?_)
  refine sw_iload_n X 3 rfl rfl dX6_isLetting_21 ?_
  refine sw_iload_n X 2 rfl rfl dX6_isLetting_22 ?_
  refine sw_icmp_ge X 121 (by decide) dX6_isLetting_23 (fun q10 => ?_) (fun q10 => ?_)
  · have h := ite_T h q10
    refine sw_iconst X (v := 1) (by decide) dX6_isLetting_121 ?_
    exact sw_zret X hr hlk (Or.inr rfl) dX6_isLetting_122 h
  · have h := ite_F h q10
    refine sw_aload_n X 0 rfl rfl dX6_isLetting_26 ?_
    refine sw_iload_n X 1 rfl rfl dX6_isLetting_27 ?_
    refine sw_iload_n X 2 rfl rfl dX6_isLetting_28 ?_
    refine sw_iload_n X 3 rfl rfl dX6_isLetting_29 ?_
    obtain ⟨r12, c11, h⟩ := bo_E h
    refine sw_callVI X (o := 63) (As := (fun g => [.int a1, .int a2, .int x6])) sw_cl6 (show sw_kd 63 = 6 from rfl) ws_X6_whoOf (by omega) (c_X6_whoOf F a1 a2 x6 s7 c11) rfl rfl (Nat.le_of_ble_eq_true rfl) wm_X6_225 dX6_isLetting_30 ?_
    refine sw_istore X [(4, .int r12), (0, .ref (g.1 63)), (1, .int a1), (2, .int a2), (3, .int x6)] (by decide) rfl dX6_isLetting_33 ?_
    refine sw_iload X 0 rfl dX6_isLetting_35 ?_
    refine sw_bipush X (v := (-9)) (by decide) dX6_isLetting_37 ?_
    refine jn1_E (fun (s13 : sw_St) => sw_V p l e 5 s m args below meth c g (sw_A g s.heap.size) (sw_QI below g args s r st1) 5 91 [(0, .ref (g.1 63)), (1, .int a1), (2, .int a2), (3, .int x6)] [] s13) h (fun s13 h => ?_) (fun k14 J15 h => ?_)
    · refine sw_aload_n X 0 rfl rfl dX6_isLetting_91 ?_
      refine sw_dup X rfl dX6_isLetting_92 ?_
      refine sw_getI X sw_cl6 (show sw_kd 63 = 6 from rfl) (k := 25) rfl (by decide) wf_X6_222 dX6_isLetting_93 ?_
      refine sw_aload_n X 0 rfl rfl dX6_isLetting_96 ?_
      refine sw_sipush X (v := 828) (by decide) dX6_isLetting_97 ?_
      obtain ⟨r17, s18, c16, h⟩ := bd_E h
      refine sw_callVI X (o := 63) (As := (fun g => [.int 828])) sw_cl6 (show sw_kd 63 = 6 from rfl) ws_X6_pass (by omega) (c_X6_pass F 828 s13 c16) rfl rfl (Nat.le_of_ble_eq_true rfl) wm_X6_176 dX6_isLetting_100 ?_
      refine jn1_E (fun (x19 : Int32) => sw_V p l e 5 s m args below meth c g (sw_A g s.heap.size) (sw_QI below g args s r st1) 5 111 [(0, .ref (g.1 63)), (1, .int a1), (2, .int a2), (3, .int x6)] [.int x19, .int (s13.1 63 25), .ref (g.1 63)] s18) h (fun x19 h => ?_) (fun k20 J21 h => ?_)
      · refine sw_iadd X dX6_isLetting_111 ?_
        refine sw_putI X sw_cl6 (show sw_kd 63 = 6 from rfl) (k := 25) rfl (by decide) rfl rfl wf_X6_222 dX6_isLetting_112 (fun s22 es22 => ?_)
        have h := nm_E h es22
        obtain ⟨x23, ex23⟩ : ∃ y : Int32, y = x6 + 1 := ⟨_, rfl⟩
        have h := nm_E h ex23
        refine sw_iinc X 3 x23 [(3, .int x23), (0, .ref (g.1 63)), (1, .int a1), (2, .int a2)] rfl (by rw [ex23]; rfl) (by decide) rfl dX6_isLetting_115 ?_
        refine sw_goto X 21 (by decide) dX6_isLetting_118 ?_
        refine sw_sub [1, 2, 3, 0] rfl ?_
        exact ih9 _ _ h
      · refine sw_if_le X 110 (by decide) dX6_isLetting_103 (fun q24 => ?_) (fun q24 => ?_)
        · have h := ite_T h q24
          refine sw_iconst X (v := 0) (by decide) dX6_isLetting_110 ?_
          exact J21 _ h
        · have h := ite_F h q24
          refine sw_iconst X (v := 1) (by decide) dX6_isLetting_106 ?_
          refine sw_goto X 111 (by decide) dX6_isLetting_107 ?_
          exact J21 _ h
    · refine sw_icmp_eq X 91 (by decide) dX6_isLetting_39 (fun q25 => ?_) (fun q25 => ?_)
      · have h := ite_T h q25
        refine sw_sub [1, 2, 3, 4] rfl ?_
        exact J15 _ h
      · have h := ite_F h q25
        refine sw_aload_n X 1 rfl rfl dX6_isLetting_42 ?_
        refine sw_sipush X (v := 828) (by decide) dX6_isLetting_43 ?_
        refine sw_iload X 0 rfl dX6_isLetting_46 ?_
        obtain ⟨r27, c26, h⟩ := bo_E h
        refine sw_callVI X (o := 63) (As := (fun g => [.int 828, .int r12])) sw_cl6 (show sw_kd 63 = 6 from rfl) ws_X6_isIn (by omega) (c_X6_isIn F 828 r12 s7 c26) rfl rfl (Nat.le_of_ble_eq_true rfl) wm_X6_167 dX6_isLetting_48 ?_
        refine sw_if_eq X 56 (by decide) dX6_isLetting_51 (fun q28 => ?_) (fun q28 => ?_)
        · have h := ite_T h q28
          refine sw_aload_n X 1 rfl rfl dX6_isLetting_56 ?_
          refine sw_sipush X (v := 828) (by decide) dX6_isLetting_57 ?_
          refine sw_iload X 0 rfl dX6_isLetting_60 ?_
          obtain ⟨u34, s30, c29, h⟩ := bd_E h
          refine sw_callVV X (o := 63) (As := (fun g => [.int 828, .int r12])) sw_cl6 (show sw_kd 63 = 6 from rfl) ws_X6_comesIn (by omega) (c_X6_comesIn F 828 r12 s7 c29) rfl rfl (Nat.le_of_ble_eq_true rfl) wm_X6_152 dX6_isLetting_62 ?_
          refine sw_aload_n X 1 rfl rfl dX6_isLetting_65 ?_
          refine sw_dup X rfl dX6_isLetting_66 ?_
          refine sw_getI X sw_cl6 (show sw_kd 63 = 6 from rfl) (k := 23) rfl (by decide) wf_X6_216 dX6_isLetting_67 ?_
          refine sw_aload_n X 1 rfl rfl dX6_isLetting_70 ?_
          refine sw_getR X sw_cl6 (show sw_kd 63 = 6 from rfl) (k := 4) rfl (by decide) (o1 := 67) rfl wf_X6_19 dX6_isLetting_71 ?_
          refine sw_iload X 0 rfl dX6_isLetting_74 ?_
          obtain ⟨q31, h⟩ := bnd_E h
          refine sw_iald X (show sw_kd 67 = 8 from rfl) (n := 6) rfl q31 dX6_isLetting_76 ?_
          refine sw_iadd X dX6_isLetting_77 ?_
          refine sw_putI X sw_cl6 (show sw_kd 63 = 6 from rfl) (k := 23) rfl (by decide) rfl rfl wf_X6_216 dX6_isLetting_78 (fun s32 es32 => ?_)
          have h := nm_E h es32
          refine sw_aload_n X 1 rfl rfl dX6_isLetting_81 ?_
          refine sw_dup X rfl dX6_isLetting_82 ?_
          refine sw_getI X sw_cl6 (show sw_kd 63 = 6 from rfl) (k := 24) rfl (by decide) wf_X6_219 dX6_isLetting_83 ?_
          refine sw_iconst X (v := 1) (by decide) dX6_isLetting_86 ?_
          refine sw_iadd X dX6_isLetting_87 ?_
          refine sw_putI X sw_cl6 (show sw_kd 63 = 6 from rfl) (k := 24) rfl (by decide) rfl rfl wf_X6_219 dX6_isLetting_88 (fun s33 es33 => ?_)
          have h := nm_E h es33
          refine sw_sub [1, 2, 3, 4] rfl ?_
          exact J15 _ h
        · have h := ite_F h q28
          refine sw_iconst X (v := 0) (by decide) dX6_isLetting_54 ?_
          exact sw_zret X hr hlk (Or.inl rfl) dX6_isLetting_55 h
theorem dX6_leastBread_0 : decode cX6_leastBread 0 = .ok (.bipush (-9), 2) := by decide +kernel
theorem dX6_leastBread_2 : decode cX6_leastBread 2 = .ok (.istore_n 3, 1) := by decide +kernel
theorem dX6_leastBread_3 : decode cX6_leastBread 3 = .ok (.aload_n 0, 1) := by decide +kernel
theorem dX6_leastBread_4 : decode cX6_leastBread 4 = .ok (.lconst 0, 1) := by decide +kernel
theorem dX6_leastBread_5 : decode cX6_leastBread 5 = .ok (.putfield 229, 3) := by decide +kernel
theorem dX6_leastBread_8 : decode cX6_leastBread 8 = .ok (.aload_n 0, 1) := by decide +kernel
theorem dX6_leastBread_9 : decode cX6_leastBread 9 = .ok (.lconst 1, 1) := by decide +kernel
theorem dX6_leastBread_10 : decode cX6_leastBread 10 = .ok (.putfield 34, 3) := by decide +kernel
theorem dX6_leastBread_13 : decode cX6_leastBread 13 = .ok (.iconst 0, 1) := by decide +kernel
theorem dX6_leastBread_14 : decode cX6_leastBread 14 = .ok (.istore 4, 2) := by decide +kernel
theorem dX6_leastBread_16 : decode cX6_leastBread 16 = .ok (.iload 4, 2) := by decide +kernel
theorem dX6_leastBread_18 : decode cX6_leastBread 18 = .ok (.aload_n 0, 1) := by decide +kernel
theorem dX6_leastBread_19 : decode cX6_leastBread 19 = .ok (.iload_n 1, 1) := by decide +kernel
theorem dX6_leastBread_20 : decode cX6_leastBread 20 = .ok (.invokevirtual 213, 3) := by decide +kernel
theorem dX6_leastBread_23 : decode cX6_leastBread 23 = .ok (.if_icmp .ge 91, 3) := by decide +kernel
theorem dX6_leastBread_26 : decode cX6_leastBread 26 = .ok (.aload_n 0, 1) := by decide +kernel
theorem dX6_leastBread_27 : decode cX6_leastBread 27 = .ok (.iload 4, 2) := by decide +kernel
theorem dX6_leastBread_29 : decode cX6_leastBread 29 = .ok (.iload_n 1, 1) := by decide +kernel
theorem dX6_leastBread_30 : decode cX6_leastBread 30 = .ok (.invokevirtual 232, 3) := by decide +kernel
theorem dX6_leastBread_33 : decode cX6_leastBread 33 = .ok (.ifCond .eq 75, 3) := by decide +kernel
theorem dX6_leastBread_36 : decode cX6_leastBread 36 = .ok (.aload_n 0, 1) := by decide +kernel
theorem dX6_leastBread_37 : decode cX6_leastBread 37 = .ok (.getfield 7, 3) := by decide +kernel
theorem dX6_leastBread_40 : decode cX6_leastBread 40 = .ok (.sipush 830, 3) := by decide +kernel
theorem dX6_leastBread_43 : decode cX6_leastBread 43 = .ok (.iaload, 1) := by decide +kernel
theorem dX6_leastBread_44 : decode cX6_leastBread 44 = .ok (.iload_n 2, 1) := by decide +kernel
theorem dX6_leastBread_45 : decode cX6_leastBread 45 = .ok (.if_icmp .ne 63, 3) := by decide +kernel
theorem dX6_leastBread_48 : decode cX6_leastBread 48 = .ok (.aload_n 0, 1) := by decide +kernel
theorem dX6_leastBread_49 : decode cX6_leastBread 49 = .ok (.dup, 1) := by decide +kernel
theorem dX6_leastBread_50 : decode cX6_leastBread 50 = .ok (.getfield 229, 3) := by decide +kernel
theorem dX6_leastBread_53 : decode cX6_leastBread 53 = .ok (.lconst 1, 1) := by decide +kernel
theorem dX6_leastBread_54 : decode cX6_leastBread 54 = .ok (.ladd, 1) := by decide +kernel
theorem dX6_leastBread_55 : decode cX6_leastBread 55 = .ok (.putfield 229, 3) := by decide +kernel
theorem dX6_leastBread_58 : decode cX6_leastBread 58 = .ok (.aload_n 0, 1) := by decide +kernel
theorem dX6_leastBread_59 : decode cX6_leastBread 59 = .ok (.iload_n 3, 1) := by decide +kernel
theorem dX6_leastBread_60 : decode cX6_leastBread 60 = .ok (.bipush (-9), 2) := by decide +kernel
theorem dX6_leastBread_62 : decode cX6_leastBread 62 = .ok (.if_icmp .eq 11, 3) := by decide +kernel
theorem dX6_leastBread_65 : decode cX6_leastBread 65 = .ok (.aload_n 0, 1) := by decide +kernel
theorem dX6_leastBread_66 : decode cX6_leastBread 66 = .ok (.getfield 216, 3) := by decide +kernel
theorem dX6_leastBread_69 : decode cX6_leastBread 69 = .ok (.iload_n 3, 1) := by decide +kernel
theorem dX6_leastBread_70 : decode cX6_leastBread 70 = .ok (.if_icmp .ge 8, 3) := by decide +kernel
theorem dX6_leastBread_73 : decode cX6_leastBread 73 = .ok (.iload 4, 2) := by decide +kernel
theorem dX6_leastBread_75 : decode cX6_leastBread 75 = .ok (.goto 7, 3) := by decide +kernel
theorem dX6_leastBread_78 : decode cX6_leastBread 78 = .ok (.aload_n 0, 1) := by decide +kernel
theorem dX6_leastBread_79 : decode cX6_leastBread 79 = .ok (.getfield 235, 3) := by decide +kernel
theorem dX6_leastBread_82 : decode cX6_leastBread 82 = .ok (.putfield 235, 3) := by decide +kernel
theorem dX6_leastBread_85 : decode cX6_leastBread 85 = .ok (.iload_n 3, 1) := by decide +kernel
theorem dX6_leastBread_86 : decode cX6_leastBread 86 = .ok (.bipush (-9), 2) := by decide +kernel
theorem dX6_leastBread_88 : decode cX6_leastBread 88 = .ok (.if_icmp .eq 11, 3) := by decide +kernel
theorem dX6_leastBread_91 : decode cX6_leastBread 91 = .ok (.aload_n 0, 1) := by decide +kernel
theorem dX6_leastBread_92 : decode cX6_leastBread 92 = .ok (.getfield 216, 3) := by decide +kernel
theorem dX6_leastBread_95 : decode cX6_leastBread 95 = .ok (.iload_n 3, 1) := by decide +kernel
theorem dX6_leastBread_96 : decode cX6_leastBread 96 = .ok (.if_icmp .ge 10, 3) := by decide +kernel
theorem dX6_leastBread_99 : decode cX6_leastBread 99 = .ok (.aload_n 0, 1) := by decide +kernel
theorem dX6_leastBread_100 : decode cX6_leastBread 100 = .ok (.getfield 216, 3) := by decide +kernel
theorem dX6_leastBread_103 : decode cX6_leastBread 103 = .ok (.goto 4, 3) := by decide +kernel
theorem dX6_leastBread_106 : decode cX6_leastBread 106 = .ok (.iload_n 3, 1) := by decide +kernel
theorem dX6_leastBread_107 : decode cX6_leastBread 107 = .ok (.istore_n 3, 1) := by decide +kernel
theorem dX6_leastBread_108 : decode cX6_leastBread 108 = .ok (.iinc 4 1, 3) := by decide +kernel
theorem dX6_leastBread_111 : decode cX6_leastBread 111 = .ok (.goto (-95), 3) := by decide +kernel
theorem dX6_leastBread_114 : decode cX6_leastBread 114 = .ok (.iload_n 3, 1) := by decide +kernel
theorem dX6_leastBread_115 : decode cX6_leastBread 115 = .ok (.ireturn, 1) := by decide +kernel
def j_X6_leastBread (F : Nat) (a1 : Int32) (a2 : Int32) (st : sw_St) : Option (Int32 × sw_St) :=
nm (sw_setJ st 63 10 0) (fun (s1 : sw_St) =>
nm (sw_setJ s1 63 11 1) (fun (s2 : sw_St) =>
lz3 (fun f6 (x3 : Int32) (x4 : Int32) (s5 : sw_St) =>
 bo (j_X6_power F a1 s5) (fun (r9 : Int32) =>
 (if r9 ≤ x4 then (
  some ((x3 : Int32), s5))
 else (
  bd (j_X6_isLetting F x4 a1 s5) (fun (r12 : Int32) (s13 : sw_St) =>
  jn (fun (x14 : Int32) (s15 : sw_St) => 
    nm (x4 + 1) (fun (x18 : Int32) =>
    f6 x14 x18 s15)) (fun k16 =>
   (if r12 = 0 then (
    k16 x3 s13)
   else (
    (if (s13.1 64 830) = a2 then (
     nm (sw_setJ s13 63 10 ((s13.2.1 63 10) + 1)) (fun (s22 : sw_St) =>
     jn (fun (x23 : Int32) => 
       nm (sw_setC s22 63 26 x23) (fun (s26 : sw_St) =>
       jn (fun (x27 : Int32) => 
         k16 x27 s26) (fun k28 =>
        jn (
          k28 (s26.1 63 23)) (fun k30 =>
         (if x3 = (-9) then (
          k30)
         else (
          (if x3 ≤ (s26.1 63 23) then (
           k28 x3)
          else (
           k30)))))))) (fun k24 =>
      jn (
        k24 x4) (fun k34 =>
       (if x3 = (-9) then (
        k34)
       else (
        (if x3 ≤ (s22.1 63 23) then (
         k24 (s22.1 63 26))
        else (
         k34))))))))
    else (
     k16 x3 s13)))))))))) F (-9) 0 s2))
set_option maxHeartbeats 4000000 in
set_option maxRecDepth 100000 in
theorem c_X6_leastBread (F : Nat) (a1 : Int32) (a2 : Int32) (st : sw_St) {r : Int32} {st1 : sw_St} (h : j_X6_leastBread F a1 a2 st = some (r, st1)) : sw_CI yX6_leastBread (.code yX6_leastBread cX6_leastBread 5 (some .int)) 6 (fun g => [.ref (g.1 63), .int a1, .int a2]) st r st1 := by
  refine sw_entI RX6 (fun g => [(0, .ref (g.1 63)), (1, .int a1), (2, .int a2)]) (by decide) rfl (fun _ => Nat.le_of_ble_eq_true rfl) (fun _ => rfl) ?_
  intro p l e s m args below meth c g X hr hlk
  unfold j_X6_leastBread at h
  refine sw_bipush X (v := (-9)) (by decide) dX6_leastBread_0 ?_
  refine sw_istore_n X [(3, .int (-9)), (0, .ref (g.1 63)), (1, .int a1), (2, .int a2)] rfl (by decide) rfl dX6_leastBread_2 ?_
  refine sw_aload_n X 1 rfl rfl dX6_leastBread_3 ?_
  refine sw_lconst X (v := 0) (by decide) dX6_leastBread_4 ?_
  refine sw_putL X sw_cl6 (show sw_kd 63 = 6 from rfl) (k := 10) rfl (by decide) rfl rfl wf_X6_229 dX6_leastBread_5 (fun s1 es1 => ?_)
  have h := nm_E h es1
  refine sw_aload_n X 1 rfl rfl dX6_leastBread_8 ?_
  refine sw_lconst X (v := 1) (by decide) dX6_leastBread_9 ?_
  refine sw_putL X sw_cl6 (show sw_kd 63 = 6 from rfl) (k := 11) rfl (by decide) rfl rfl wf_X6_34 dX6_leastBread_10 (fun s2 es2 => ?_)
  have h := nm_E h es2
  refine sw_iconst X (v := 0) (by decide) dX6_leastBread_13 ?_
  refine sw_istore X [(4, .int 0), (3, .int (-9)), (0, .ref (g.1 63)), (1, .int a1), (2, .int a2)] (by decide) rfl dX6_leastBread_14 ?_
  refine sw_sub [2, 3, 4, 1, 0] rfl ?_
  refine lz3_E (fun (x3 : Int32) (x4 : Int32) (s5 : sw_St) => sw_V p l e 6 s m args below meth c g (sw_A g s.heap.size) (sw_QI below g args s r st1) 5 16 [(0, .ref (g.1 63)), (1, .int a1), (2, .int a2), (3, .int x3), (4, .int x4)] [] s5) h (fun f6 ih7 x3 x4 s5 h => ?_)
  refine sw_iload X 4 rfl dX6_leastBread_16 ?_
  refine sw_aload_n X 0 rfl rfl dX6_leastBread_18 ?_
  refine sw_iload_n X 1 rfl rfl dX6_leastBread_19 ?_
  obtain ⟨r9, c8, h⟩ := bo_E h
  refine sw_callVI X (o := 63) (As := (fun g => [.int a1])) sw_cl6 (show sw_kd 63 = 6 from rfl) ws_X6_power (by omega) (c_X6_power F a1 s5 c8) rfl rfl (Nat.le_of_ble_eq_true rfl) wm_X6_213 dX6_leastBread_20 ?_
  refine sw_icmp_ge X 114 (by decide) dX6_leastBread_23 (fun q10 => ?_) (fun q10 => ?_)
  · have h := ite_T h q10
    refine sw_iload_n X 3 rfl rfl dX6_leastBread_114 ?_
    exact sw_iret X hr hlk dX6_leastBread_115 h
  · have h := ite_F h q10
    refine sw_aload_n X 0 rfl rfl dX6_leastBread_26 ?_
    refine sw_iload X 4 rfl dX6_leastBread_27 ?_
    refine sw_iload_n X 1 rfl rfl dX6_leastBread_29 ?_
    obtain ⟨r12, s13, c11, h⟩ := bd_E h
    refine sw_callVI X (o := 63) (As := (fun g => [.int x4, .int a1])) sw_cl6 (show sw_kd 63 = 6 from rfl) ws_X6_isLetting (by omega) (c_X6_isLetting F x4 a1 s5 c11) rfl rfl (Nat.le_of_ble_eq_true rfl) wm_X6_232 dX6_leastBread_30 ?_
    refine jn2_E (fun (x14 : Int32) (s15 : sw_St) => sw_V p l e 6 s m args below meth c g (sw_A g s.heap.size) (sw_QI below g args s r st1) 5 108 [(0, .ref (g.1 63)), (1, .int a1), (2, .int a2), (3, .int x14), (4, .int x4)] [] s15) h (fun x14 s15 h => ?_) (fun k16 J17 h => ?_)
    · obtain ⟨x18, ex18⟩ : ∃ y : Int32, y = x4 + 1 := ⟨_, rfl⟩
      have h := nm_E h ex18
      refine sw_iinc X 4 x18 [(4, .int x18), (0, .ref (g.1 63)), (1, .int a1), (2, .int a2), (3, .int x14)] rfl (by rw [ex18]; rfl) (by decide) rfl dX6_leastBread_108 ?_
      refine sw_goto X 16 (by decide) dX6_leastBread_111 ?_
      refine sw_sub [1, 2, 3, 4, 0] rfl ?_
      exact ih7 _ _ _ h
    · refine sw_if_eq X 108 (by decide) dX6_leastBread_33 (fun q19 => ?_) (fun q19 => ?_)
      · have h := ite_T h q19
        exact J17 _ _ h
      · have h := ite_F h q19
        refine sw_aload_n X 0 rfl rfl dX6_leastBread_36 ?_
        refine sw_getR X sw_cl6 (show sw_kd 63 = 6 from rfl) (k := 0) rfl (by decide) (o1 := 64) rfl wf_X6_7 dX6_leastBread_37 ?_
        refine sw_sipush X (v := 830) (by decide) dX6_leastBread_40 ?_
        refine sw_iald X (show sw_kd 64 = 8 from rfl) (n := 835) rfl (i := 830) (by unfold vp_in; decide) dX6_leastBread_43 ?_
        refine sw_iload_n X 2 rfl rfl dX6_leastBread_44 ?_
        refine sw_icmp_ne X 108 (by decide) dX6_leastBread_45 (fun q21 => ?_) (fun q21 => ?_)
        · have h := ite_F h q21
          exact J17 _ _ h
        · have h := ite_T h q21
          refine sw_aload_n X 0 rfl rfl dX6_leastBread_48 ?_
          refine sw_dup X rfl dX6_leastBread_49 ?_
          refine sw_getL X sw_cl6 (show sw_kd 63 = 6 from rfl) (k := 10) rfl (by decide) wf_X6_229 dX6_leastBread_50 ?_
          refine sw_lconst X (v := 1) (by decide) dX6_leastBread_53 ?_
          refine sw_ladd X dX6_leastBread_54 ?_
          refine sw_putL X sw_cl6 (show sw_kd 63 = 6 from rfl) (k := 10) rfl (by decide) rfl rfl wf_X6_229 dX6_leastBread_55 (fun s22 es22 => ?_)
          have h := nm_E h es22
          refine sw_aload_n X 0 rfl rfl dX6_leastBread_58 ?_
          refine sw_iload_n X 3 rfl rfl dX6_leastBread_59 ?_
          refine sw_bipush X (v := (-9)) (by decide) dX6_leastBread_60 ?_
          refine jn1_E (fun (x23 : Int32) => sw_V p l e 6 s m args below meth c g (sw_A g s.heap.size) (sw_QI below g args s r st1) 5 82 [(0, .ref (g.1 63)), (1, .int a1), (2, .int a2), (3, .int x3), (4, .int x4)] [.int x23, .ref (g.1 63)] s22) h (fun x23 h => ?_) (fun k24 J25 h => ?_)
          · refine sw_putI X sw_cl6 (show sw_kd 63 = 6 from rfl) (k := 26) rfl (by decide) rfl rfl wf_X6_235 dX6_leastBread_82 (fun s26 es26 => ?_)
            have h := nm_E h es26
            refine sw_iload_n X 3 rfl rfl dX6_leastBread_85 ?_
            refine sw_bipush X (v := (-9)) (by decide) dX6_leastBread_86 ?_
            refine jn1_E (fun (x27 : Int32) => sw_V p l e 6 s m args below meth c g (sw_A g s.heap.size) (sw_QI below g args s r st1) 5 107 [(0, .ref (g.1 63)), (1, .int a1), (2, .int a2), (4, .int x4)] [.int x27] s26) h (fun x27 h => ?_) (fun k28 J29 h => ?_)
            · refine sw_istore_n X [(3, .int x27), (0, .ref (g.1 63)), (1, .int a1), (2, .int a2), (4, .int x4)] rfl (by decide) rfl dX6_leastBread_107 ?_
              refine sw_sub [1, 2, 3, 0, 4] rfl ?_
              exact J17 _ _ h
            · refine jn0_E (sw_V p l e 6 s m args below meth c g (sw_A g s.heap.size) (sw_QI below g args s r st1) 5 99 [(0, .ref (g.1 63)), (1, .int a1), (2, .int a2), (4, .int x4)] [] s26) h (fun h => ?_) (fun k30 J31 h => ?_)
              · refine sw_aload_n X 0 rfl rfl dX6_leastBread_99 ?_
                refine sw_getI X sw_cl6 (show sw_kd 63 = 6 from rfl) (k := 23) rfl (by decide) wf_X6_216 dX6_leastBread_100 ?_
                refine sw_goto X 107 (by decide) dX6_leastBread_103 ?_
                exact J29 _ h
              · refine sw_icmp_eq X 99 (by decide) dX6_leastBread_88 (fun q32 => ?_) (fun q32 => ?_)
                · have h := ite_T h q32
                  refine sw_sub [0, 1, 2, 4] rfl ?_
                  exact J31  h
                · have h := ite_F h q32
                  refine sw_aload_n X 0 rfl rfl dX6_leastBread_91 ?_
                  refine sw_getI X sw_cl6 (show sw_kd 63 = 6 from rfl) (k := 23) rfl (by decide) wf_X6_216 dX6_leastBread_92 ?_
                  refine sw_iload_n X 3 rfl rfl dX6_leastBread_95 ?_
                  refine sw_icmp_ge X 106 (by decide) dX6_leastBread_96 (fun q33 => ?_) (fun q33 => ?_)
                  · have h := ite_T h q33
                    refine sw_iload_n X 3 rfl rfl dX6_leastBread_106 ?_
                    refine sw_sub [0, 1, 2, 4] rfl ?_
                    exact J29 _ h
                  · have h := ite_F h q33
                    refine sw_sub [0, 1, 2, 4] rfl ?_
                    exact J31  h
          · refine jn0_E (sw_V p l e 6 s m args below meth c g (sw_A g s.heap.size) (sw_QI below g args s r st1) 5 73 [(0, .ref (g.1 63)), (1, .int a1), (2, .int a2), (3, .int x3), (4, .int x4)] [.ref (g.1 63)] s22) h (fun h => ?_) (fun k34 J35 h => ?_)
            · refine sw_iload X 4 rfl dX6_leastBread_73 ?_
              refine sw_goto X 82 (by decide) dX6_leastBread_75 ?_
              exact J25 _ h
            · refine sw_icmp_eq X 73 (by decide) dX6_leastBread_62 (fun q36 => ?_) (fun q36 => ?_)
              · have h := ite_T h q36
                exact J35  h
              · have h := ite_F h q36
                refine sw_aload_n X 0 rfl rfl dX6_leastBread_65 ?_
                refine sw_getI X sw_cl6 (show sw_kd 63 = 6 from rfl) (k := 23) rfl (by decide) wf_X6_216 dX6_leastBread_66 ?_
                refine sw_iload_n X 3 rfl rfl dX6_leastBread_69 ?_
                refine sw_icmp_ge X 78 (by decide) dX6_leastBread_70 (fun q37 => ?_) (fun q37 => ?_)
                · have h := ite_T h q37
                  refine sw_aload_n X 0 rfl rfl dX6_leastBread_78 ?_
                  refine sw_getI X sw_cl6 (show sw_kd 63 = 6 from rfl) (k := 26) rfl (by decide) wf_X6_235 dX6_leastBread_79 ?_
                  exact J25 _ h
                · have h := ite_F h q37
                  exact J35  h
