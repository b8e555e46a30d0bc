theorem dX6_town_0 : decode cX6_town 0 = .ok (.iload_n 1, 1) := by decide +kernel
theorem dX6_town_1 : decode cX6_town 1 = .ok (.invokestatic 92, 3) := by decide +kernel
theorem dX6_town_4 : decode cX6_town 4 = .ok (.ifCond .ne 5, 3) := by decide +kernel
theorem dX6_town_7 : decode cX6_town 7 = .ok (.iconst (-1), 1) := by decide +kernel
theorem dX6_town_8 : decode cX6_town 8 = .ok (.ireturn, 1) := by decide +kernel
theorem dX6_town_9 : decode cX6_town 9 = .ok (.aload_n 0, 1) := by decide +kernel
theorem dX6_town_10 : decode cX6_town 10 = .ok (.getfield 28, 3) := by decide +kernel
theorem dX6_town_13 : decode cX6_town 13 = .ok (.iload_n 1, 1) := by decide +kernel
theorem dX6_town_14 : decode cX6_town 14 = .ok (.iaload, 1) := by decide +kernel
theorem dX6_town_15 : decode cX6_town 15 = .ok (.ifCond .ge 9, 3) := by decide +kernel
theorem dX6_town_18 : decode cX6_town 18 = .ok (.aload_n 0, 1) := by decide +kernel
theorem dX6_town_19 : decode cX6_town 19 = .ok (.iconst 1, 1) := by decide +kernel
theorem dX6_town_20 : decode cX6_town 20 = .ok (.invokevirtual 73, 3) := by decide +kernel
theorem dX6_town_23 : decode cX6_town 23 = .ok (.ireturn, 1) := by decide +kernel
theorem dX6_town_24 : decode cX6_town 24 = .ok (.aload_n 0, 1) := by decide +kernel
theorem dX6_town_25 : decode cX6_town 25 = .ok (.iload_n 1, 1) := by decide +kernel
theorem dX6_town_26 : decode cX6_town 26 = .ok (.invokevirtual 133, 3) := by decide +kernel
theorem dX6_town_29 : decode cX6_town 29 = .ok (.bipush (-9), 2) := by decide +kernel
theorem dX6_town_31 : decode cX6_town 31 = .ok (.if_icmp .eq 6, 3) := by decide +kernel
theorem dX6_town_34 : decode cX6_town 34 = .ok (.bipush (-4), 2) := by decide +kernel
theorem dX6_town_36 : decode cX6_town 36 = .ok (.ireturn, 1) := by decide +kernel
theorem dX6_town_37 : decode cX6_town 37 = .ok (.aload_n 0, 1) := by decide +kernel
theorem dX6_town_38 : decode cX6_town 38 = .ok (.aload_n 0, 1) := by decide +kernel
theorem dX6_town_39 : decode cX6_town 39 = .ok (.getfield 123, 3) := by decide +kernel
theorem dX6_town_42 : decode cX6_town 42 = .ok (.putfield 136, 3) := by decide +kernel
theorem dX6_town_45 : decode cX6_town 45 = .ok (.iconst 0, 1) := by decide +kernel
theorem dX6_town_46 : decode cX6_town 46 = .ok (.istore_n 2, 1) := by decide +kernel
theorem dX6_town_47 : decode cX6_town 47 = .ok (.iload_n 2, 1) := by decide +kernel
theorem dX6_town_48 : decode cX6_town 48 = .ok (.sipush 207, 3) := by decide +kernel
theorem dX6_town_51 : decode cX6_town 51 = .ok (.if_icmp .ge 16, 3) := by decide +kernel
theorem dX6_town_54 : decode cX6_town 54 = .ok (.aload_n 0, 1) := by decide +kernel
theorem dX6_town_55 : decode cX6_town 55 = .ok (.getfield 7, 3) := by decide +kernel
theorem dX6_town_58 : decode cX6_town 58 = .ok (.iload_n 2, 1) := by decide +kernel
theorem dX6_town_59 : decode cX6_town 59 = .ok (.iconst 0, 1) := by decide +kernel
theorem dX6_town_60 : decode cX6_town 60 = .ok (.iastore, 1) := by decide +kernel
theorem dX6_town_61 : decode cX6_town 61 = .ok (.iinc 2 1, 3) := by decide +kernel
theorem dX6_town_64 : decode cX6_town 64 = .ok (.goto (-17), 3) := by decide +kernel
theorem dX6_town_67 : decode cX6_town 67 = .ok (.aload_n 0, 1) := by decide +kernel
theorem dX6_town_68 : decode cX6_town 68 = .ok (.getfield 7, 3) := by decide +kernel
theorem dX6_town_71 : decode cX6_town 71 = .ok (.iconst 1, 1) := by decide +kernel
theorem dX6_town_72 : decode cX6_town 72 = .ok (.aload_n 0, 1) := by decide +kernel
theorem dX6_town_73 : decode cX6_town 73 = .ok (.getfield 114, 3) := by decide +kernel
theorem dX6_town_76 : decode cX6_town 76 = .ok (.iastore, 1) := by decide +kernel
theorem dX6_town_77 : decode cX6_town 77 = .ok (.aload_n 0, 1) := by decide +kernel
theorem dX6_town_78 : decode cX6_town 78 = .ok (.getfield 7, 3) := by decide +kernel
theorem dX6_town_81 : decode cX6_town 81 = .ok (.iconst 4, 1) := by decide +kernel
theorem dX6_town_82 : decode cX6_town 82 = .ok (.aload_n 0, 1) := by decide +kernel
theorem dX6_town_83 : decode cX6_town 83 = .ok (.getfield 117, 3) := by decide +kernel
theorem dX6_town_86 : decode cX6_town 86 = .ok (.iastore, 1) := by decide +kernel
theorem dX6_town_87 : decode cX6_town 87 = .ok (.iconst 0, 1) := by decide +kernel
theorem dX6_town_88 : decode cX6_town 88 = .ok (.istore_n 2, 1) := by decide +kernel
theorem dX6_town_89 : decode cX6_town 89 = .ok (.iload_n 2, 1) := by decide +kernel
theorem dX6_town_90 : decode cX6_town 90 = .ok (.aload_n 0, 1) := by decide +kernel
theorem dX6_town_91 : decode cX6_town 91 = .ok (.getfield 136, 3) := by decide +kernel
theorem dX6_town_94 : decode cX6_town 94 = .ok (.if_icmp .ge 77, 3) := by decide +kernel
theorem dX6_town_97 : decode cX6_town 97 = .ok (.aload_n 0, 1) := by decide +kernel
theorem dX6_town_98 : decode cX6_town 98 = .ok (.getfield 13, 3) := by decide +kernel
theorem dX6_town_101 : decode cX6_town 101 = .ok (.iload_n 2, 1) := by decide +kernel
theorem dX6_town_102 : decode cX6_town 102 = .ok (.aload_n 0, 1) := by decide +kernel
theorem dX6_town_103 : decode cX6_town 103 = .ok (.getfield 41, 3) := by decide +kernel
theorem dX6_town_106 : decode cX6_town 106 = .ok (.iconst 4, 1) := by decide +kernel
theorem dX6_town_107 : decode cX6_town 107 = .ok (.iload_n 2, 1) := by decide +kernel
theorem dX6_town_108 : decode cX6_town 108 = .ok (.imul, 1) := by decide +kernel
theorem dX6_town_109 : decode cX6_town 109 = .ok (.iaload, 1) := by decide +kernel
theorem dX6_town_110 : decode cX6_town 110 = .ok (.iastore, 1) := by decide +kernel
theorem dX6_town_111 : decode cX6_town 111 = .ok (.aload_n 0, 1) := by decide +kernel
theorem dX6_town_112 : decode cX6_town 112 = .ok (.getfield 16, 3) := by decide +kernel
theorem dX6_town_115 : decode cX6_town 115 = .ok (.iload_n 2, 1) := by decide +kernel
theorem dX6_town_116 : decode cX6_town 116 = .ok (.aload_n 0, 1) := by decide +kernel
theorem dX6_town_117 : decode cX6_town 117 = .ok (.getfield 41, 3) := by decide +kernel
theorem dX6_town_120 : decode cX6_town 120 = .ok (.iconst 4, 1) := by decide +kernel
theorem dX6_town_121 : decode cX6_town 121 = .ok (.iload_n 2, 1) := by decide +kernel
theorem dX6_town_122 : decode cX6_town 122 = .ok (.imul, 1) := by decide +kernel
theorem dX6_town_123 : decode cX6_town 123 = .ok (.iconst 1, 1) := by decide +kernel
theorem dX6_town_124 : decode cX6_town 124 = .ok (.iadd, 1) := by decide +kernel
theorem dX6_town_125 : decode cX6_town 125 = .ok (.iaload, 1) := by decide +kernel
theorem dX6_town_126 : decode cX6_town 126 = .ok (.iastore, 1) := by decide +kernel
theorem dX6_town_127 : decode cX6_town 127 = .ok (.aload_n 0, 1) := by decide +kernel
theorem dX6_town_128 : decode cX6_town 128 = .ok (.getfield 7, 3) := by decide +kernel
theorem dX6_town_131 : decode cX6_town 131 = .ok (.bipush 6, 2) := by decide +kernel
theorem dX6_town_133 : decode cX6_town 133 = .ok (.dup2, 1) := by decide +kernel
theorem dX6_town_134 : decode cX6_town 134 = .ok (.iaload, 1) := by decide +kernel
theorem dX6_town_135 : decode cX6_town 135 = .ok (.aload_n 0, 1) := by decide +kernel
theorem dX6_town_136 : decode cX6_town 136 = .ok (.getfield 41, 3) := by decide +kernel
theorem dX6_town_139 : decode cX6_town 139 = .ok (.iconst 4, 1) := by decide +kernel
theorem dX6_town_140 : decode cX6_town 140 = .ok (.iload_n 2, 1) := by decide +kernel
theorem dX6_town_141 : decode cX6_town 141 = .ok (.imul, 1) := by decide +kernel
theorem dX6_town_142 : decode cX6_town 142 = .ok (.iconst 2, 1) := by decide +kernel
theorem dX6_town_143 : decode cX6_town 143 = .ok (.iadd, 1) := by decide +kernel
theorem dX6_town_144 : decode cX6_town 144 = .ok (.iaload, 1) := by decide +kernel
theorem dX6_town_145 : decode cX6_town 145 = .ok (.iload_n 2, 1) := by decide +kernel
theorem dX6_town_146 : decode cX6_town 146 = .ok (.ishl, 1) := by decide +kernel
theorem dX6_town_147 : decode cX6_town 147 = .ok (.ior, 1) := by decide +kernel
theorem dX6_town_148 : decode cX6_town 148 = .ok (.iastore, 1) := by decide +kernel
theorem dX6_town_149 : decode cX6_town 149 = .ok (.aload_n 0, 1) := by decide +kernel
theorem dX6_town_150 : decode cX6_town 150 = .ok (.getfield 19, 3) := by decide +kernel
theorem dX6_town_153 : decode cX6_town 153 = .ok (.iload_n 2, 1) := by decide +kernel
theorem dX6_town_154 : decode cX6_town 154 = .ok (.aload_n 0, 1) := by decide +kernel
theorem dX6_town_155 : decode cX6_town 155 = .ok (.getfield 41, 3) := by decide +kernel
theorem dX6_town_158 : decode cX6_town 158 = .ok (.iconst 4, 1) := by decide +kernel
theorem dX6_town_159 : decode cX6_town 159 = .ok (.iload_n 2, 1) := by decide +kernel
theorem dX6_town_160 : decode cX6_town 160 = .ok (.imul, 1) := by decide +kernel
theorem dX6_town_161 : decode cX6_town 161 = .ok (.iconst 3, 1) := by decide +kernel
theorem dX6_town_162 : decode cX6_town 162 = .ok (.iadd, 1) := by decide +kernel
theorem dX6_town_163 : decode cX6_town 163 = .ok (.iaload, 1) := by decide +kernel
theorem dX6_town_164 : decode cX6_town 164 = .ok (.iastore, 1) := by decide +kernel
theorem dX6_town_165 : decode cX6_town 165 = .ok (.iinc 2 1, 3) := by decide +kernel
theorem dX6_town_168 : decode cX6_town 168 = .ok (.goto (-79), 3) := by decide +kernel
theorem dX6_town_171 : decode cX6_town 171 = .ok (.iconst 1, 1) := by decide +kernel
theorem dX6_town_172 : decode cX6_town 172 = .ok (.istore_n 2, 1) := by decide +kernel
theorem dX6_town_173 : decode cX6_town 173 = .ok (.iload_n 2, 1) := by decide +kernel
theorem dX6_town_174 : decode cX6_town 174 = .ok (.iconst 4, 1) := by decide +kernel
theorem dX6_town_175 : decode cX6_town 175 = .ok (.if_icmp .ge 22, 3) := by decide +kernel
theorem dX6_town_178 : decode cX6_town 178 = .ok (.aload_n 0, 1) := by decide +kernel
theorem dX6_town_179 : decode cX6_town 179 = .ok (.getfield 7, 3) := by decide +kernel
theorem dX6_town_182 : decode cX6_town 182 = .ok (.sipush 207, 3) := by decide +kernel
theorem dX6_town_185 : decode cX6_town 185 = .ok (.iload_n 2, 1) := by decide +kernel
theorem dX6_town_186 : decode cX6_town 186 = .ok (.imul, 1) := by decide +kernel
theorem dX6_town_187 : decode cX6_town 187 = .ok (.iconst 0, 1) := by decide +kernel
theorem dX6_town_188 : decode cX6_town 188 = .ok (.iadd, 1) := by decide +kernel
theorem dX6_town_189 : decode cX6_town 189 = .ok (.iconst (-1), 1) := by decide +kernel
theorem dX6_town_190 : decode cX6_town 190 = .ok (.iastore, 1) := by decide +kernel
theorem dX6_town_191 : decode cX6_town 191 = .ok (.iinc 2 1, 3) := by decide +kernel
theorem dX6_town_194 : decode cX6_town 194 = .ok (.goto (-21), 3) := by decide +kernel
theorem dX6_town_197 : decode cX6_town 197 = .ok (.aload_n 0, 1) := by decide +kernel
theorem dX6_town_198 : decode cX6_town 198 = .ok (.getfield 136, 3) := by decide +kernel
theorem dX6_town_201 : decode cX6_town 201 = .ok (.ireturn, 1) := by decide +kernel
def j_X6_town (F : Nat) (a1 : Int32) (st : sw_St) : Option (Int32 × sw_St) :=
bo (j_X6_isText F a1 st) (fun (r2 : Int32) =>
(if r2 = 0 then (
 some (((-1) : Int32), st))
else (
 bnd a1 4 (
 (if 0 ≤ (st.1 70 (a1 : Int32).toNatClampNeg) then (
  bd (j_X6_faultOf F a1 st) (fun (r7 : Int32) (s8 : sw_St) =>
  (if r7 = (-9) then (
   nm (sw_setC s8 63 1 (s8.1 63 20)) (fun (s10 : sw_St) =>
   lz2 (fun f13 (x11 : Int32) (s12 : sw_St) =>
    (if 207 ≤ x11 then (
     nm (sw_setC s12 64 1 (s12.1 63 17)) (fun (s17 : sw_St) =>
     nm (sw_setC s17 64 4 (s17.1 63 18)) (fun (s19 : sw_St) =>
     lz2 (fun f22 (x20 : Int32) (s21 : sw_St) =>
      (if (s21.1 63 1) ≤ x20 then (
       lz2 (fun f27 (x25 : Int32) (s26 : sw_St) =>
        (if 4 ≤ x25 then (
         some ((s26.1 63 1 : Int32), s26))
        else (
         bnd ((207 * x25) + 0) 835 (
         nm (sw_setC s26 64 (((207 * x25) + 0) : Int32).toNatClampNeg (-1)) (fun (s31 : sw_St) =>
         nm (x25 + 1) (fun (x32 : Int32) =>
         f27 x32 s31)))))) F 1 s21)
      else (
       bnd (4 * x20) 24 (
       bnd x20 6 (
       nm (sw_setC s21 65 (x20 : Int32).toNatClampNeg (s21.1 73 ((4 * x20) : Int32).toNatClampNeg)) (fun (s35 : sw_St) =>
       bnd ((4 * x20) + 1) 24 (
       bnd x20 6 (
       nm (sw_setC s35 66 (x20 : Int32).toNatClampNeg (s35.1 73 (((4 * x20) + 1) : Int32).toNatClampNeg)) (fun (s38 : sw_St) =>
       bnd ((4 * x20) + 2) 24 (
       nm (sw_setC s38 64 6 ((s38.1 64 6) ||| ((s38.1 73 (((4 * x20) + 2) : Int32).toNatClampNeg) <<< (x20 &&& 31)))) (fun (s42 : sw_St) =>
       bnd ((4 * x20) + 3) 24 (
       bnd x20 6 (
       nm (sw_setC s42 67 (x20 : Int32).toNatClampNeg (s42.1 73 (((4 * x20) + 3) : Int32).toNatClampNeg)) (fun (s45 : sw_St) =>
       nm (x20 + 1) (fun (x46 : Int32) =>
       f22 x46 s45))))))))))))))) F 0 s19)))
    else (
     bnd x11 835 (
     nm (sw_setC s12 64 (x11 : Int32).toNatClampNeg 0) (fun (s48 : sw_St) =>
     nm (x11 + 1) (fun (x49 : Int32) =>
     f13 x49 s48)))))) F 0 s10))
  else (
   some (((-4) : Int32), s8)))))
 else (
  bd (j_X6_find F 1 st) (fun (r51 : Int32) (s52 : sw_St) =>
  some ((r51 : Int32), s52))))))))
set_option maxHeartbeats 4000000 in
set_option maxRecDepth 100000 in
theorem c_X6_town (F : Nat) (a1 : Int32) (st : sw_St) {r : Int32} {st1 : sw_St} (h : j_X6_town F a1 st = some (r, st1)) : sw_CI yX6_town (.code yX6_town cX6_town 3 (some .int)) 5 (fun g => [.ref (g.1 63), .int a1]) st r st1 := by
  refine sw_entI RX6 (fun g => [(0, .ref (g.1 63)), (1, .int a1)]) (by decide) rfl (fun _ => Nat.le_of_ble_eq_true rfl) (fun _ => rfl) ?_
  intro p l e s m args below meth c g X hr hlk
  unfold j_X6_town at h
  refine sw_iload_n X 1 rfl rfl dX6_town_0 ?_
  obtain ⟨r2, c1, h⟩ := bo_E h
  refine sw_callSI X (As := (fun g => [.int a1])) ws_X6_isText (by omega) (c_X6_isText F a1 st c1) rfl rfl (Nat.le_of_ble_eq_true rfl) wm_X6_92 dX6_town_1 ?_
  refine sw_if_ne X 9 (by decide) dX6_town_4 (fun q3 => ?_) (fun q3 => ?_)
  · have h := ite_F h q3
    refine sw_aload_n X 0 rfl rfl dX6_town_9 ?_
    refine sw_getR X sw_cl6 (show sw_kd 63 = 6 from rfl) (k := 7) rfl (by decide) (o1 := 70) rfl wf_X6_28 dX6_town_10 ?_
    refine sw_iload_n X 1 rfl rfl dX6_town_13 ?_
    obtain ⟨q4, h⟩ := bnd_E h
    refine sw_iald X (show sw_kd 70 = 8 from rfl) (n := 4) rfl q4 dX6_town_14 ?_
    refine sw_if_ge X 24 (by decide) dX6_town_15 (fun q5 => ?_) (fun q5 => ?_)
    · have h := ite_T h q5
      refine sw_aload_n X 0 rfl rfl dX6_town_24 ?_
      refine sw_iload_n X 1 rfl rfl dX6_town_25 ?_
      obtain ⟨r7, s8, c6, h⟩ := bd_E h
      refine sw_callVI X (o := 63) (As := (fun g => [.int a1])) sw_cl6 (show sw_kd 63 = 6 from rfl) ws_X6_faultOf (by omega) (c_X6_faultOf F a1 st c6) rfl rfl (Nat.le_of_ble_eq_true rfl) wm_X6_133 dX6_town_26 ?_
      refine sw_bipush X (v := (-9)) (by decide) dX6_town_29 ?_
      refine sw_icmp_eq X 37 (by decide) dX6_town_31 (fun q9 => ?_) (fun q9 => ?_)
      · have h := ite_T h q9
        refine sw_aload_n X 0 rfl rfl dX6_town_37 ?_
        refine sw_aload_n X 0 rfl rfl dX6_town_38 ?_
        refine sw_getI X sw_cl6 (show sw_kd 63 = 6 from rfl) (k := 20) rfl (by decide) wf_X6_123 dX6_town_39 ?_
        refine sw_putI X sw_cl6 (show sw_kd 63 = 6 from rfl) (k := 1) rfl (by decide) rfl rfl wf_X6_136 dX6_town_42 (fun s10 es10 => ?_)
        have h := nm_E h es10
        refine sw_iconst X (v := 0) (by decide) dX6_town_45 ?_
        refine sw_istore_n X [(2, .int 0), (0, .ref (g.1 63)), (1, .int a1)] rfl (by decide) rfl dX6_town_46 ?_
        refine sw_sub [1, 0] rfl ?_
        refine lz2_E (fun (x11 : Int32) (s12 : sw_St) => sw_V p l e 5 s m args below meth c g (sw_A g s.heap.size) (sw_QI below g args s r st1) 3 47 [(0, .ref (g.1 63)), (2, .int x11)] [] s12) h (fun f13 ih14 x11 s12 h => ?_)
        refine sw_iload_n X 1 rfl rfl dX6_town_47 ?_
        refine sw_sipush X (v := 207) (by decide) dX6_town_48 ?_
        refine sw_icmp_ge X 67 (by decide) dX6_town_51 (fun q15 => ?_) (fun q15 => ?_)
        · have h := ite_T h q15
          refine sw_aload_n X 0 rfl rfl dX6_town_67 ?_
          refine sw_getR X sw_cl6 (show sw_kd 63 = 6 from rfl) (k := 0) rfl (by decide) (o1 := 64) rfl wf_X6_7 dX6_town_68 ?_
          refine sw_iconst X (v := 1) (by decide) dX6_town_71 ?_
          refine sw_aload_n X 0 rfl rfl dX6_town_72 ?_
          refine sw_getI X sw_cl6 (show sw_kd 63 = 6 from rfl) (k := 17) rfl (by decide) wf_X6_114 dX6_town_73 ?_
          refine sw_iast X (show sw_kd 64 = 8 from rfl) (n := 835) rfl (i := 1) (by unfold vp_in; decide) dX6_town_76 (fun s17 es17 => ?_)
          have h := nm_E h es17
          refine sw_aload_n X 0 rfl rfl dX6_town_77 ?_
          refine sw_getR X sw_cl6 (show sw_kd 63 = 6 from rfl) (k := 0) rfl (by decide) (o1 := 64) rfl wf_X6_7 dX6_town_78 ?_
          refine sw_iconst X (v := 4) (by decide) dX6_town_81 ?_
          refine sw_aload_n X 0 rfl rfl dX6_town_82 ?_
          refine sw_getI X sw_cl6 (show sw_kd 63 = 6 from rfl) (k := 18) rfl (by decide) wf_X6_117 dX6_town_83 ?_
          refine sw_iast X (show sw_kd 64 = 8 from rfl) (n := 835) rfl (i := 4) (by unfold vp_in; decide) dX6_town_86 (fun s19 es19 => ?_)
          have h := nm_E h es19
          refine sw_iconst X (v := 0) (by decide) dX6_town_87 ?_
          refine sw_istore_n X [(2, .int 0), (0, .ref (g.1 63))] rfl (by decide) rfl dX6_town_88 ?_
          refine sw_sub [1, 0] rfl ?_
          refine lz2_E (fun (x20 : Int32) (s21 : sw_St) => sw_V p l e 5 s m args below meth c g (sw_A g s.heap.size) (sw_QI below g args s r st1) 3 89 [(0, .ref (g.1 63)), (2, .int x20)] [] s21) h (fun f22 ih23 x20 s21 h => ?_)
          refine sw_iload_n X 1 rfl rfl dX6_town_89 ?_
          refine sw_aload_n X 0 rfl rfl dX6_town_90 ?_
          refine sw_getI X sw_cl6 (show sw_kd 63 = 6 from rfl) (k := 1) rfl (by decide) wf_X6_136 dX6_town_91 ?_
          refine sw_icmp_ge X 171 (by decide) dX6_town_94 (fun q24 => ?_) (fun q24 => ?_)
          · have h := ite_T h q24
            refine sw_iconst X (v := 1) (by decide) dX6_town_171 ?_
            refine sw_istore_n X [(2, .int 1), (0, .ref (g.1 63))] rfl (by decide) rfl dX6_town_172 ?_
            refine sw_sub [1, 0] rfl ?_
            refine lz2_E (fun (x25 : Int32) (s26 : sw_St) => sw_V p l e 5 s m args below meth c g (sw_A g s.heap.size) (sw_QI below g args s r st1) 3 173 [(0, .ref (g.1 63)), (2, .int x25)] [] s26) h (fun f27 ih28 x25 s26 h => ?_)
            refine sw_iload_n X 1 rfl rfl dX6_town_173 ?_
            refine sw_iconst X (v := 4) (by decide) dX6_town_174 ?_
            refine sw_icmp_ge X 197 (by decide) dX6_town_175 (fun q29 => ?_) (fun q29 => ?_)
            · have h := ite_T h q29
              refine sw_aload_n X 0 rfl rfl dX6_town_197 ?_
              refine sw_getI X sw_cl6 (show sw_kd 63 = 6 from rfl) (k := 1) rfl (by decide) wf_X6_136 dX6_town_198 ?_
              exact sw_iret X hr hlk dX6_town_201 h
            · have h := ite_F h q29
              refine sw_aload_n X 0 rfl rfl dX6_town_178 ?_
              refine sw_getR X sw_cl6 (show sw_kd 63 = 6 from rfl) (k := 0) rfl (by decide) (o1 := 64) rfl wf_X6_7 dX6_town_179 ?_
              refine sw_sipush X (v := 207) (by decide) dX6_town_182 ?_
              refine sw_iload_n X 1 rfl rfl dX6_town_185 ?_
              refine sw_imul X dX6_town_186 ?_
              refine sw_iconst X (v := 0) (by decide) dX6_town_187 ?_
              refine sw_iadd X dX6_town_188 ?_
              refine sw_iconst X (v := (-1)) (by decide) dX6_town_189 ?_
              obtain ⟨q30, h⟩ := bnd_E h
              refine sw_iast X (show sw_kd 64 = 8 from rfl) (n := 835) rfl q30 dX6_town_190 (fun s31 es31 => ?_)
              have h := nm_E h es31
              obtain ⟨x32, ex32⟩ : ∃ y : Int32, y = x25 + 1 := ⟨_, rfl⟩
              have h := nm_E h ex32
              refine sw_iinc X 1 x32 [(2, .int x32), (0, .ref (g.1 63))] rfl (by rw [ex32]; rfl) (by decide) rfl dX6_town_191 ?_
              refine sw_goto X 173 (by decide) dX6_town_194 ?_
              refine sw_sub [1, 0] rfl ?_
              exact ih28 _ _ h
          · have h := ite_F h q24
            refine sw_aload_n X 0 rfl rfl dX6_town_97 ?_
            refine sw_getR X sw_cl6 (show sw_kd 63 = 6 from rfl) (k := 2) rfl (by decide) (o1 := 65) rfl wf_X6_13 dX6_town_98 ?_
            refine sw_iload_n X 1 rfl rfl dX6_town_101 ?_
            refine sw_aload_n X 0 rfl rfl dX6_town_102 ?_
            refine sw_getR X sw_cl6 (show sw_kd 63 = 6 from rfl) (k := 19) rfl (by decide) (o1 := 73) rfl wf_X6_41 dX6_town_103 ?_
            refine sw_iconst X (v := 4) (by decide) dX6_town_106 ?_
            refine sw_iload_n X 1 rfl rfl dX6_town_107 ?_
            refine sw_imul X dX6_town_108 ?_
            obtain ⟨q33, h⟩ := bnd_E h
            refine sw_iald X (show sw_kd 73 = 8 from rfl) (n := 24) rfl q33 dX6_town_109 ?_
            obtain ⟨q34, h⟩ := bnd_E h
            refine sw_iast X (show sw_kd 65 = 8 from rfl) (n := 6) rfl q34 dX6_town_110 (fun s35 es35 => ?_)
            have h := nm_E h es35
            refine sw_aload_n X 0 rfl rfl dX6_town_111 ?_
            refine sw_getR X sw_cl6 (show sw_kd 63 = 6 from rfl) (k := 3) rfl (by decide) (o1 := 66) rfl wf_X6_16 dX6_town_112 ?_
            refine sw_iload_n X 1 rfl rfl dX6_town_115 ?_
            refine sw_aload_n X 0 rfl rfl dX6_town_116 ?_
            refine sw_getR X sw_cl6 (show sw_kd 63 = 6 from rfl) (k := 19) rfl (by decide) (o1 := 73) rfl wf_X6_41 dX6_town_117 ?_
            refine sw_iconst X (v := 4) (by decide) dX6_town_120 ?_
            refine sw_iload_n X 1 rfl rfl dX6_town_121 ?_
            refine sw_imul X dX6_town_122 ?_
            refine sw_iconst X (v := 1) (by decide) dX6_town_123 ?_
            refine sw_iadd X dX6_town_124 ?_
            obtain ⟨q36, h⟩ := bnd_E h
            refine sw_iald X (show sw_kd 73 = 8 from rfl) (n := 24) rfl q36 dX6_town_125 ?_
            obtain ⟨q37, h⟩ := bnd_E h
            refine sw_iast X (show sw_kd 66 = 8 from rfl) (n := 6) rfl q37 dX6_town_126 (fun s38 es38 => ?_)
            have h := nm_E h es38
            refine sw_aload_n X 0 rfl rfl dX6_town_127 ?_
            refine sw_getR X sw_cl6 (show sw_kd 63 = 6 from rfl) (k := 0) rfl (by decide) (o1 := 64) rfl wf_X6_7 dX6_town_128 ?_
            refine sw_bipush X (v := 6) (by decide) dX6_town_131 ?_
            refine sw_dup2 X rfl rfl dX6_town_133 ?_
            refine sw_iald X (show sw_kd 64 = 8 from rfl) (n := 835) rfl (i := 6) (by unfold vp_in; decide) dX6_town_134 ?_
            refine sw_aload_n X 0 rfl rfl dX6_town_135 ?_
            refine sw_getR X sw_cl6 (show sw_kd 63 = 6 from rfl) (k := 19) rfl (by decide) (o1 := 73) rfl wf_X6_41 dX6_town_136 ?_
            refine sw_iconst X (v := 4) (by decide) dX6_town_139 ?_
            refine sw_iload_n X 1 rfl rfl dX6_town_140 ?_
            refine sw_imul X dX6_town_141 ?_
            refine sw_iconst X (v := 2) (by decide) dX6_town_142 ?_
            refine sw_iadd X dX6_town_143 ?_
            obtain ⟨q40, h⟩ := bnd_E h
            refine sw_iald X (show sw_kd 73 = 8 from rfl) (n := 24) rfl q40 dX6_town_144 ?_
            refine sw_iload_n X 1 rfl rfl dX6_town_145 ?_
            refine sw_ishl X dX6_town_146 ?_
            refine sw_ior X dX6_town_147 ?_
            refine sw_iast X (show sw_kd 64 = 8 from rfl) (n := 835) rfl (i := 6) (by unfold vp_in; decide) dX6_town_148 (fun s42 es42 => ?_)
            have h := nm_E h es42
            refine sw_aload_n X 0 rfl rfl dX6_town_149 ?_
            refine sw_getR X sw_cl6 (show sw_kd 63 = 6 from rfl) (k := 4) rfl (by decide) (o1 := 67) rfl wf_X6_19 dX6_town_150 ?_
            refine sw_iload_n X 1 rfl rfl dX6_town_153 ?_
            refine sw_aload_n X 0 rfl rfl dX6_town_154 ?_
            refine sw_getR X sw_cl6 (show sw_kd 63 = 6 from rfl) (k := 19) rfl (by decide) (o1 := 73) rfl wf_X6_41 dX6_town_155 ?_
            refine sw_iconst X (v := 4) (by decide) dX6_town_158 ?_
            refine sw_iload_n X 1 rfl rfl dX6_town_159 ?_
            refine sw_imul X dX6_town_160 ?_
            refine sw_iconst X (v := 3) (by decide) dX6_town_161 ?_
            refine sw_iadd X dX6_town_162 ?_
            obtain ⟨q43, h⟩ := bnd_E h
            refine sw_iald X (show sw_kd 73 = 8 from rfl) (n := 24) rfl q43 dX6_town_163 ?_
            obtain ⟨q44, h⟩ := bnd_E h
            refine sw_iast X (show sw_kd 67 = 8 from rfl) (n := 6) rfl q44 dX6_town_164 (fun s45 es45 => ?_)
            have h := nm_E h es45
            obtain ⟨x46, ex46⟩ : ∃ y : Int32, y = x20 + 1 := ⟨_, rfl⟩
            have h := nm_E h ex46
            refine sw_iinc X 1 x46 [(2, .int x46), (0, .ref (g.1 63))] rfl (by rw [ex46]; rfl) (by decide) rfl dX6_town_165 ?_
            refine sw_goto X 89 (by decide) dX6_town_168 ?_
            refine sw_sub [1, 0] rfl ?_
            exact ih23 _ _ h
        · have h := ite_F h q15
          refine sw_aload_n X 0 rfl rfl dX6_town_54 ?_
          refine sw_getR X sw_cl6 (show sw_kd 63 = 6 from rfl) (k := 0) rfl (by decide) (o1 := 64) rfl wf_X6_7 dX6_town_55 ?_
          refine sw_iload_n X 1 rfl rfl dX6_town_58 ?_
          refine sw_iconst X (v := 0) (by decide) dX6_town_59 ?_
          obtain ⟨q47, h⟩ := bnd_E h
          refine sw_iast X (show sw_kd 64 = 8 from rfl) (n := 835) rfl q47 dX6_town_60 (fun s48 es48 => ?_)
          have h := nm_E h es48
          obtain ⟨x49, ex49⟩ : ∃ y : Int32, y = x11 + 1 := ⟨_, rfl⟩
          have h := nm_E h ex49
          refine sw_iinc X 1 x49 [(2, .int x49), (0, .ref (g.1 63))] rfl (by rw [ex49]; rfl) (by decide) rfl dX6_town_61 ?_
          refine sw_goto X 47 (by decide) dX6_town_64 ?_
          refine sw_sub [1, 0] rfl ?_
          exact ih14 _ _ h
      · have h := ite_F h q9
        refine sw_bipush X (v := (-4)) (by decide) dX6_town_34 ?_
        exact sw_iret X hr hlk dX6_town_36 h
    · have h := ite_F h q5
      refine sw_aload_n X 0 rfl rfl dX6_town_18 ?_
      refine sw_iconst X (v := 1) (by decide) dX6_town_19 ?_
      obtain ⟨r51, s52, c50, h⟩ := bd_E h
      refine sw_callVI X (o := 63) (As := (fun g => [.int 1])) sw_cl6 (show sw_kd 63 = 6 from rfl) ws_X6_find (by omega) (c_X6_find F 1 st c50) rfl rfl (Nat.le_of_ble_eq_true rfl) wm_X6_73 dX6_town_20 ?_
      exact sw_iret X hr hlk dX6_town_23 h
  · have h := ite_T h q3
    refine sw_iconst X (v := (-1)) (by decide) dX6_town_7 ?_
    exact sw_iret X hr hlk dX6_town_8 h
theorem dX6_isStranger_0 : decode cX6_isStranger 0 = .ok (.iload_n 1, 1) := by decide +kernel
theorem dX6_isStranger_1 : decode cX6_isStranger 1 = .ok (.i2l, 1) := by decide +kernel
theorem dX6_isStranger_2 : decode cX6_isStranger 2 = .ok (.lconst 0, 1) := by decide +kernel
theorem dX6_isStranger_3 : decode cX6_isStranger 3 = .ok (.aload_n 0, 1) := by decide +kernel
theorem dX6_isStranger_4 : decode cX6_isStranger 4 = .ok (.getfield 136, 3) := by decide +kernel
theorem dX6_isStranger_7 : decode cX6_isStranger 7 = .ok (.iconst 1, 1) := by decide +kernel
theorem dX6_isStranger_8 : decode cX6_isStranger 8 = .ok (.isub, 1) := by decide +kernel
theorem dX6_isStranger_9 : decode cX6_isStranger 9 = .ok (.i2l, 1) := by decide +kernel
theorem dX6_isStranger_10 : decode cX6_isStranger 10 = .ok (.invokestatic 63, 3) := by decide +kernel
theorem dX6_isStranger_13 : decode cX6_isStranger 13 = .ok (.ireturn, 1) := by decide +kernel
def j_X6_isStranger (F : Nat) (a1 : Int32) (st : sw_St) : Option Int32 :=
bo (j_X6_in F ((a1 : Int32).toInt64) 0 ((((st.1 63 1) - 1) : Int32).toInt64) st) (fun (r2 : Int32) =>
grd (r2 = 0 ∨ r2 = 1) (some (r2 : Int32)))
set_option maxHeartbeats 4000000 in
set_option maxRecDepth 100000 in
theorem c_X6_isStranger (F : Nat) (a1 : Int32) (st : sw_St) {r : Int32} (h : j_X6_isStranger F a1 st = some r) : sw_CI yX6_isStranger (.code yX6_isStranger cX6_isStranger 2 (some .boolean)) 2 (fun g => [.ref (g.1 63), .int a1]) st r st := by
  refine sw_entI RX6 (fun g => [(0, .ref (g.1 63)), (1, .int a1)]) (by decide) rfl (fun _ => Nat.le_of_ble_eq_true rfl) (fun _ => rfl) ?_
  intro p l e s m args below meth c g X hr hlk
  unfold j_X6_isStranger at h
  refine sw_iload_n X 1 rfl rfl dX6_isStranger_0 ?_
  refine sw_i2l X dX6_isStranger_1 ?_
  refine sw_lconst X (v := 0) (by decide) dX6_isStranger_2 ?_
  refine sw_aload_n X 0 rfl rfl dX6_isStranger_3 ?_
  refine sw_getI X sw_cl6 (show sw_kd 63 = 6 from rfl) (k := 1) rfl (by decide) wf_X6_136 dX6_isStranger_4 ?_
  refine sw_iconst X (v := 1) (by decide) dX6_isStranger_7 ?_
  refine sw_isub X dX6_isStranger_8 ?_
  refine sw_i2l X dX6_isStranger_9 ?_
  obtain ⟨r2, c1, h⟩ := bo_E h
  refine sw_callSI X (As := (fun g => [.long ((a1 : Int32).toInt64), .long 0, .long ((((st.1 63 1) - 1) : Int32).toInt64)])) ws_X6_in (by omega) (c_X6_in F ((a1 : Int32).toInt64) 0 ((((st.1 63 1) - 1) : Int32).toInt64) st c1) rfl rfl (Nat.le_of_ble_eq_true rfl) wm_X6_63 dX6_isStranger_10 ?_
  obtain ⟨q3, h⟩ := grd_E h
  exact sw_zret X hr hlk q3 dX6_isStranger_13 (by cases h; rfl)
theorem dX6_isIn_0 : decode cX6_isIn 0 = .ok (.aload_n 0, 1) := by decide +kernel
theorem dX6_isIn_1 : decode cX6_isIn 1 = .ok (.getfield 7, 3) := by decide +kernel
theorem dX6_isIn_4 : decode cX6_isIn 4 = .ok (.iload_n 1, 1) := by decide +kernel
theorem dX6_isIn_5 : decode cX6_isIn 5 = .ok (.iconst 5, 1) := by decide +kernel
theorem dX6_isIn_6 : decode cX6_isIn 6 = .ok (.iadd, 1) := by decide +kernel
theorem dX6_isIn_7 : decode cX6_isIn 7 = .ok (.iaload, 1) := by decide +kernel
theorem dX6_isIn_8 : decode cX6_isIn 8 = .ok (.iload_n 2, 1) := by decide +kernel
theorem dX6_isIn_9 : decode cX6_isIn 9 = .ok (.invokestatic 139, 3) := by decide +kernel
theorem dX6_isIn_12 : decode cX6_isIn 12 = .ok (.ireturn, 1) := by decide +kernel
def j_X6_isIn (F : Nat) (a1 : Int32) (a2 : Int32) (st : sw_St) : Option Int32 :=
bnd (a1 + 5) 835 (
bo (j_X6_has F (st.1 64 ((a1 + 5) : Int32).toNatClampNeg) a2 st) (fun (r3 : Int32) =>
grd (r3 = 0 ∨ r3 = 1) (some (r3 : Int32))))
set_option maxHeartbeats 4000000 in
set_option maxRecDepth 100000 in
theorem c_X6_isIn (F : Nat) (a1 : Int32) (a2 : Int32) (st : sw_St) {r : Int32} (h : j_X6_isIn F a1 a2 st = some r) : sw_CI yX6_isIn (.code yX6_isIn cX6_isIn 3 (some .boolean)) 2 (fun g => [.ref (g.1 63), .int a1, .int a2]) st r st := by
  refine sw_entI RX6 (fun g => [(0, .ref (g.1 63)), (1, .int a1), (2, .int a2)]) (by decide) rfl (fun _ => Nat.le_of_ble_eq_true rfl) (fun _ => rfl) ?_
  intro p l e s m args below meth c g X hr hlk
  unfold j_X6_isIn at h
  refine sw_aload_n X 0 rfl rfl dX6_isIn_0 ?_
  refine sw_getR X sw_cl6 (show sw_kd 63 = 6 from rfl) (k := 0) rfl (by decide) (o1 := 64) rfl wf_X6_7 dX6_isIn_1 ?_
  refine sw_iload_n X 1 rfl rfl dX6_isIn_4 ?_
  refine sw_iconst X (v := 5) (by decide) dX6_isIn_5 ?_
  refine sw_iadd X dX6_isIn_6 ?_
  obtain ⟨q1, h⟩ := bnd_E h
  refine sw_iald X (show sw_kd 64 = 8 from rfl) (n := 835) rfl q1 dX6_isIn_7 ?_
  refine sw_iload_n X 2 rfl rfl dX6_isIn_8 ?_
  obtain ⟨r3, c2, h⟩ := bo_E h
  refine sw_callSI X (As := (fun g => [.int (st.1 64 ((a1 + 5) : Int32).toNatClampNeg), .int a2])) ws_X6_has (by omega) (c_X6_has F (st.1 64 ((a1 + 5) : Int32).toNatClampNeg) a2 st c2) rfl rfl (Nat.le_of_ble_eq_true rfl) wm_X6_139 dX6_isIn_9 ?_
  obtain ⟨q4, h⟩ := grd_E h
  exact sw_zret X hr hlk q4 dX6_isIn_12 (by cases h; rfl)
theorem dX6_pilgrims_0 : decode cX6_pilgrims 0 = .ok (.iconst 0, 1) := by decide +kernel
theorem dX6_pilgrims_1 : decode cX6_pilgrims 1 = .ok (.istore_n 2, 1) := by decide +kernel
theorem dX6_pilgrims_2 : decode cX6_pilgrims 2 = .ok (.iconst 0, 1) := by decide +kernel
theorem dX6_pilgrims_3 : decode cX6_pilgrims 3 = .ok (.istore_n 3, 1) := by decide +kernel
theorem dX6_pilgrims_4 : decode cX6_pilgrims 4 = .ok (.iload_n 3, 1) := by decide +kernel
theorem dX6_pilgrims_5 : decode cX6_pilgrims 5 = .ok (.aload_n 0, 1) := by decide +kernel
theorem dX6_pilgrims_6 : decode cX6_pilgrims 6 = .ok (.getfield 136, 3) := by decide +kernel
theorem dX6_pilgrims_9 : decode cX6_pilgrims 9 = .ok (.if_icmp .ge 35, 3) := by decide +kernel
theorem dX6_pilgrims_12 : decode cX6_pilgrims 12 = .ok (.iload_n 2, 1) := by decide +kernel
theorem dX6_pilgrims_13 : decode cX6_pilgrims 13 = .ok (.iload_n 1, 1) := by decide +kernel
theorem dX6_pilgrims_14 : decode cX6_pilgrims 14 = .ok (.iload_n 3, 1) := by decide +kernel
theorem dX6_pilgrims_15 : decode cX6_pilgrims 15 = .ok (.invokestatic 139, 3) := by decide +kernel
theorem dX6_pilgrims_18 : decode cX6_pilgrims 18 = .ok (.ifCond .eq 17, 3) := by decide +kernel
theorem dX6_pilgrims_21 : decode cX6_pilgrims 21 = .ok (.aload_n 0, 1) := by decide +kernel
theorem dX6_pilgrims_22 : decode cX6_pilgrims 22 = .ok (.getfield 13, 3) := by decide +kernel
theorem dX6_pilgrims_25 : decode cX6_pilgrims 25 = .ok (.iload_n 3, 1) := by decide +kernel
theorem dX6_pilgrims_26 : decode cX6_pilgrims 26 = .ok (.iaload, 1) := by decide +kernel
theorem dX6_pilgrims_27 : decode cX6_pilgrims 27 = .ok (.iconst 3, 1) := by decide +kernel
theorem dX6_pilgrims_28 : decode cX6_pilgrims 28 = .ok (.if_icmp .ne 7, 3) := by decide +kernel
theorem dX6_pilgrims_31 : decode cX6_pilgrims 31 = .ok (.iconst 1, 1) := by decide +kernel
theorem dX6_pilgrims_32 : decode cX6_pilgrims 32 = .ok (.goto 4, 3) := by decide +kernel
theorem dX6_pilgrims_35 : decode cX6_pilgrims 35 = .ok (.iconst 0, 1) := by decide +kernel
theorem dX6_pilgrims_36 : decode cX6_pilgrims 36 = .ok (.iadd, 1) := by decide +kernel
theorem dX6_pilgrims_37 : decode cX6_pilgrims 37 = .ok (.istore_n 2, 1) := by decide +kernel
theorem dX6_pilgrims_38 : decode cX6_pilgrims 38 = .ok (.iinc 3 1, 3) := by decide +kernel
theorem dX6_pilgrims_41 : decode cX6_pilgrims 41 = .ok (.goto (-37), 3) := by decide +kernel
theorem dX6_pilgrims_44 : decode cX6_pilgrims 44 = .ok (.iload_n 2, 1) := by decide +kernel
theorem dX6_pilgrims_45 : decode cX6_pilgrims 45 = .ok (.ireturn, 1) := by decide +kernel
def j_X6_pilgrims (F : Nat) (a1 : Int32) (st : sw_St) : Option Int32 :=
lz2 (fun f3 (x1 : Int32) (x2 : Int32) =>
 (if (st.1 63 1) ≤ x2 then (
  some (x1 : Int32))
 else (
  bo (j_X6_has F a1 x2 st) (fun (r7 : Int32) =>
  jn (fun (x8 : Int32) => 
    nm (x1 + x8) (fun (x11 : Int32) =>
    nm (x2 + 1) (fun (x12 : Int32) =>
    f3 x11 x12))) (fun k9 =>
   jn (
     k9 0) (fun k13 =>
    (if r7 = 0 then (
     k13)
    else (
     bnd x2 6 (
     (if (st.1 65 (x2 : Int32).toNatClampNeg) = 3 then (
      k9 1)
     else (
      k13))))))))))) F 0 0
set_option maxHeartbeats 4000000 in
set_option maxRecDepth 100000 in
theorem c_X6_pilgrims (F : Nat) (a1 : Int32) (st : sw_St) {r : Int32} (h : j_X6_pilgrims F a1 st = some r) : sw_CI yX6_pilgrims (.code yX6_pilgrims cX6_pilgrims 4 (some .int)) 2 (fun g => [.ref (g.1 63), .int a1]) st r st := by
  refine sw_entI RX6 (fun g => [(0, .ref (g.1 63)), (1, .int a1)]) (by decide) rfl (fun _ => Nat.le_of_ble_eq_true rfl) (fun _ => rfl) ?_
  intro p l e s m args below meth c g X hr hlk
  unfold j_X6_pilgrims at h
  refine sw_iconst X (v := 0) (by decide) dX6_pilgrims_0 ?_
  refine sw_istore_n X [(2, .int 0), (0, .ref (g.1 63)), (1, .int a1)] rfl (by decide) rfl dX6_pilgrims_1 ?_
  refine sw_iconst X (v := 0) (by decide) dX6_pilgrims_2 ?_
  refine sw_istore_n X [(3, .int 0), (2, .int 0), (0, .ref (g.1 63)), (1, .int a1)] rfl (by decide) rfl dX6_pilgrims_3 ?_
  refine sw_sub [2, 3, 1, 0] rfl ?_
  refine lz2_E (fun (x1 : Int32) (x2 : Int32) => sw_V p l e 2 s m args below meth c g (sw_A g s.heap.size) (sw_QI below g args s r st) 4 4 [(0, .ref (g.1 63)), (1, .int a1), (2, .int x1), (3, .int x2)] [] st) h (fun f3 ih4 x1 x2 h => ?_)
  refine sw_iload_n X 3 rfl rfl dX6_pilgrims_4 ?_
  refine sw_aload_n X 0 rfl rfl dX6_pilgrims_5 ?_
  refine sw_getI X sw_cl6 (show sw_kd 63 = 6 from rfl) (k := 1) rfl (by decide) wf_X6_136 dX6_pilgrims_6 ?_
  refine sw_icmp_ge X 44 (by decide) dX6_pilgrims_9 (fun q5 => ?_) (fun q5 => ?_)
  · have h := ite_T h q5
    refine sw_iload_n X 2 rfl rfl dX6_pilgrims_44 ?_
    exact sw_iret X hr hlk dX6_pilgrims_45 (by cases h; rfl)
  · have h := ite_F h q5
    refine sw_iload_n X 2 rfl rfl dX6_pilgrims_12 ?_
    refine sw_iload_n X 1 rfl rfl dX6_pilgrims_13 ?_
    refine sw_iload_n X 3 rfl rfl dX6_pilgrims_14 ?_
    obtain ⟨r7, c6, h⟩ := bo_E h
    refine sw_callSI X (As := (fun g => [.int a1, .int x2])) ws_X6_has (by omega) (c_X6_has F a1 x2 st c6) rfl rfl (Nat.le_of_ble_eq_true rfl) wm_X6_139 dX6_pilgrims_15 ?_
    refine jn1_E (fun (x8 : Int32) => sw_V p l e 2 s m args below meth c g (sw_A g s.heap.size) (sw_QI below g args s r st) 4 36 [(0, .ref (g.1 63)), (1, .int a1), (3, .int x2)] [.int x8, .int x1] st) h (fun x8 h => ?_) (fun k9 J10 h => ?_)
    · refine sw_iadd X dX6_pilgrims_36 ?_
      refine sw_topi (fun x11 ex11 => ?_)
      have h := nm_E h ex11
      refine sw_istore_n X [(2, .int x11), (0, .ref (g.1 63)), (1, .int a1), (3, .int x2)] rfl (by decide) rfl dX6_pilgrims_37 ?_
      obtain ⟨x12, ex12⟩ : ∃ y : Int32, y = x2 + 1 := ⟨_, rfl⟩
      have h := nm_E h ex12
      refine sw_iinc X 3 x12 [(3, .int x12), (2, .int x11), (0, .ref (g.1 63)), (1, .int a1)] rfl (by rw [ex12]; rfl) (by decide) rfl dX6_pilgrims_38 ?_
      refine sw_goto X 4 (by decide) dX6_pilgrims_41 ?_
      refine sw_sub [2, 3, 1, 0] rfl ?_
      exact ih4 _ _ h
    · refine jn0_E (sw_V p l e 2 s m args below meth c g (sw_A g s.heap.size) (sw_QI below g args s r st) 4 35 [(0, .ref (g.1 63)), (1, .int a1), (3, .int x2)] [.int x1] st) h (fun h => ?_) (fun k13 J14 h => ?_)
      · refine sw_iconst X (v := 0) (by decide) dX6_pilgrims_35 ?_
        exact J10 _ h
      · refine sw_if_eq X 35 (by decide) dX6_pilgrims_18 (fun q15 => ?_) (fun q15 => ?_)
        · have h := ite_T h q15
          refine sw_sub [0, 1, 3] rfl ?_
          exact J14  h
        · have h := ite_F h q15
          refine sw_aload_n X 0 rfl rfl dX6_pilgrims_21 ?_
          refine sw_getR X sw_cl6 (show sw_kd 63 = 6 from rfl) (k := 2) rfl (by decide) (o1 := 65) rfl wf_X6_13 dX6_pilgrims_22 ?_
          refine sw_iload_n X 3 rfl rfl dX6_pilgrims_25 ?_
          obtain ⟨q16, h⟩ := bnd_E h
          refine sw_iald X (show sw_kd 65 = 8 from rfl) (n := 6) rfl q16 dX6_pilgrims_26 ?_
          refine sw_iconst X (v := 3) (by decide) dX6_pilgrims_27 ?_
          refine sw_icmp_ne X 35 (by decide) dX6_pilgrims_28 (fun q17 => ?_) (fun q17 => ?_)
          · have h := ite_F h q17
            refine sw_sub [0, 1, 3] rfl ?_
            exact J14  h
          · have h := ite_T h q17
            refine sw_iconst X (v := 1) (by decide) dX6_pilgrims_31 ?_
            refine sw_goto X 36 (by decide) dX6_pilgrims_32 ?_
            refine sw_sub [0, 1, 3] rfl ?_
            exact J10 _ h
theorem dX6_turnsOf_0 : decode cX6_turnsOf 0 = .ok (.aload_n 0, 1) := by decide +kernel
theorem dX6_turnsOf_1 : decode cX6_turnsOf 1 = .ok (.getfield 16, 3) := by decide +kernel
theorem dX6_turnsOf_4 : decode cX6_turnsOf 4 = .ok (.iload_n 2, 1) := by decide +kernel
theorem dX6_turnsOf_5 : decode cX6_turnsOf 5 = .ok (.iaload, 1) := by decide +kernel
theorem dX6_turnsOf_6 : decode cX6_turnsOf 6 = .ok (.istore_n 3, 1) := by decide +kernel
theorem dX6_turnsOf_7 : decode cX6_turnsOf 7 = .ok (.aload_n 0, 1) := by decide +kernel
theorem dX6_turnsOf_8 : decode cX6_turnsOf 8 = .ok (.getfield 7, 3) := by decide +kernel
theorem dX6_turnsOf_11 : decode cX6_turnsOf 11 = .ok (.iload_n 1, 1) := by decide +kernel
theorem dX6_turnsOf_12 : decode cX6_turnsOf 12 = .ok (.iconst 5, 1) := by decide +kernel
theorem dX6_turnsOf_13 : decode cX6_turnsOf 13 = .ok (.iadd, 1) := by decide +kernel
theorem dX6_turnsOf_14 : decode cX6_turnsOf 14 = .ok (.iaload, 1) := by decide +kernel
theorem dX6_turnsOf_15 : decode cX6_turnsOf 15 = .ok (.iconst 1, 1) := by decide +kernel
theorem dX6_turnsOf_16 : decode cX6_turnsOf 16 = .ok (.iload_n 2, 1) := by decide +kernel
theorem dX6_turnsOf_17 : decode cX6_turnsOf 17 = .ok (.ishl, 1) := by decide +kernel
theorem dX6_turnsOf_18 : decode cX6_turnsOf 18 = .ok (.iconst (-1), 1) := by decide +kernel
theorem dX6_turnsOf_19 : decode cX6_turnsOf 19 = .ok (.ixor, 1) := by decide +kernel
theorem dX6_turnsOf_20 : decode cX6_turnsOf 20 = .ok (.iand, 1) := by decide +kernel
theorem dX6_turnsOf_21 : decode cX6_turnsOf 21 = .ok (.istore 4, 2) := by decide +kernel
theorem dX6_turnsOf_23 : decode cX6_turnsOf 23 = .ok (.aload_n 0, 1) := by decide +kernel
theorem dX6_turnsOf_24 : decode cX6_turnsOf 24 = .ok (.getfield 13, 3) := by decide +kernel
theorem dX6_turnsOf_27 : decode cX6_turnsOf 27 = .ok (.iload_n 2, 1) := by decide +kernel
theorem dX6_turnsOf_28 : decode cX6_turnsOf 28 = .ok (.iaload, 1) := by decide +kernel
theorem dX6_turnsOf_29 : decode cX6_turnsOf 29 = .ok (.tableswitch 91 1 5 #[35, 41, 47, 56, 79], 35) := by decide +kernel
theorem dX6_turnsOf_64 : decode cX6_turnsOf 64 = .ok (.iload_n 3, 1) := by decide +kernel
theorem dX6_turnsOf_65 : decode cX6_turnsOf 65 = .ok (.iload_n 3, 1) := by decide +kernel
theorem dX6_turnsOf_66 : decode cX6_turnsOf 66 = .ok (.iconst 2, 1) := by decide +kernel
theorem dX6_turnsOf_67 : decode cX6_turnsOf 67 = .ok (.idiv, 1) := by decide +kernel
theorem dX6_turnsOf_68 : decode cX6_turnsOf 68 = .ok (.iadd, 1) := by decide +kernel
theorem dX6_turnsOf_69 : decode cX6_turnsOf 69 = .ok (.ireturn, 1) := by decide +kernel
theorem dX6_turnsOf_70 : decode cX6_turnsOf 70 = .ok (.iload_n 3, 1) := by decide +kernel
theorem dX6_turnsOf_71 : decode cX6_turnsOf 71 = .ok (.iconst 4, 1) := by decide +kernel
theorem dX6_turnsOf_72 : decode cX6_turnsOf 72 = .ok (.idiv, 1) := by decide +kernel
theorem dX6_turnsOf_73 : decode cX6_turnsOf 73 = .ok (.iconst 1, 1) := by decide +kernel
theorem dX6_turnsOf_74 : decode cX6_turnsOf 74 = .ok (.iadd, 1) := by decide +kernel
theorem dX6_turnsOf_75 : decode cX6_turnsOf 75 = .ok (.ireturn, 1) := by decide +kernel
theorem dX6_turnsOf_76 : decode cX6_turnsOf 76 = .ok (.iload_n 3, 1) := by decide +kernel
theorem dX6_turnsOf_77 : decode cX6_turnsOf 77 = .ok (.aload_n 0, 1) := by decide +kernel
theorem dX6_turnsOf_78 : decode cX6_turnsOf 78 = .ok (.iload 4, 2) := by decide +kernel
theorem dX6_turnsOf_80 : decode cX6_turnsOf 80 = .ok (.invokevirtual 143, 3) := by decide +kernel
theorem dX6_turnsOf_83 : decode cX6_turnsOf 83 = .ok (.iadd, 1) := by decide +kernel
theorem dX6_turnsOf_84 : decode cX6_turnsOf 84 = .ok (.ireturn, 1) := by decide +kernel
theorem dX6_turnsOf_85 : decode cX6_turnsOf 85 = .ok (.aload_n 0, 1) := by decide +kernel
theorem dX6_turnsOf_86 : decode cX6_turnsOf 86 = .ok (.getfield 7, 3) := by decide +kernel
theorem dX6_turnsOf_89 : decode cX6_turnsOf 89 = .ok (.iload_n 1, 1) := by decide +kernel
theorem dX6_turnsOf_90 : decode cX6_turnsOf 90 = .ok (.iconst 1, 1) := by decide +kernel
theorem dX6_turnsOf_91 : decode cX6_turnsOf 91 = .ok (.iadd, 1) := by decide +kernel
theorem dX6_turnsOf_92 : decode cX6_turnsOf 92 = .ok (.iaload, 1) := by decide +kernel
theorem dX6_turnsOf_93 : decode cX6_turnsOf 93 = .ok (.bipush 40, 2) := by decide +kernel
theorem dX6_turnsOf_95 : decode cX6_turnsOf 95 = .ok (.if_icmp .le 7, 3) := by decide +kernel
theorem dX6_turnsOf_98 : decode cX6_turnsOf 98 = .ok (.iconst 0, 1) := by decide +kernel
theorem dX6_turnsOf_99 : decode cX6_turnsOf 99 = .ok (.goto 8, 3) := by decide +kernel
theorem dX6_turnsOf_102 : decode cX6_turnsOf 102 = .ok (.iload_n 3, 1) := by decide +kernel
theorem dX6_turnsOf_103 : decode cX6_turnsOf 103 = .ok (.iload_n 3, 1) := by decide +kernel
theorem dX6_turnsOf_104 : decode cX6_turnsOf 104 = .ok (.iconst 2, 1) := by decide +kernel
theorem dX6_turnsOf_105 : decode cX6_turnsOf 105 = .ok (.idiv, 1) := by decide +kernel
theorem dX6_turnsOf_106 : decode cX6_turnsOf 106 = .ok (.iadd, 1) := by decide +kernel
theorem dX6_turnsOf_107 : decode cX6_turnsOf 107 = .ok (.ireturn, 1) := by decide +kernel
theorem dX6_turnsOf_108 : decode cX6_turnsOf 108 = .ok (.iload_n 3, 1) := by decide +kernel
theorem dX6_turnsOf_109 : decode cX6_turnsOf 109 = .ok (.iconst 4, 1) := by decide +kernel
theorem dX6_turnsOf_110 : decode cX6_turnsOf 110 = .ok (.idiv, 1) := by decide +kernel
theorem dX6_turnsOf_111 : decode cX6_turnsOf 111 = .ok (.iconst 1, 1) := by decide +kernel
theorem dX6_turnsOf_112 : decode cX6_turnsOf 112 = .ok (.iadd, 1) := by decide +kernel
theorem dX6_turnsOf_113 : decode cX6_turnsOf 113 = .ok (.iload 4, 2) := by decide +kernel
theorem dX6_turnsOf_115 : decode cX6_turnsOf 115 = .ok (.invokestatic 146, 3) := by decide +kernel
theorem dX6_turnsOf_118 : decode cX6_turnsOf 118 = .ok (.iadd, 1) := by decide +kernel
theorem dX6_turnsOf_119 : decode cX6_turnsOf 119 = .ok (.ireturn, 1) := by decide +kernel
theorem dX6_turnsOf_120 : decode cX6_turnsOf 120 = .ok (.iload_n 3, 1) := by decide +kernel
theorem dX6_turnsOf_121 : decode cX6_turnsOf 121 = .ok (.ireturn, 1) := by decide +kernel
def j_X6_turnsOf (F : Nat) (a1 : Int32) (a2 : Int32) (st : sw_St) : Option Int32 :=
bnd a2 6 (
nm (st.1 66 (a2 : Int32).toNatClampNeg) (fun (x2 : Int32) =>
bnd (a1 + 5) 835 (
nm ((st.1 64 ((a1 + 5) : Int32).toNatClampNeg) &&& ((1 <<< (a2 &&& 31)) ^^^ (-1))) (fun (x4 : Int32) =>
bnd a2 6 (
(if (st.1 65 (a2 : Int32).toNatClampNeg) = 1 then (
 some (x2 + (x2 / 2) : Int32))
else (
 (if (st.1 65 (a2 : Int32).toNatClampNeg) = 2 then (
  some ((x2 / 4) + 1 : Int32))
 else (
  (if (st.1 65 (a2 : Int32).toNatClampNeg) = 3 then (
   bo (j_X6_pilgrims F x4 st) (fun (r10 : Int32) =>
   some (x2 + r10 : Int32)))
  else (
   (if (st.1 65 (a2 : Int32).toNatClampNeg) = 4 then (
    bnd (a1 + 1) 835 (
    jn (fun (x13 : Int32) => 
      some (x13 : Int32)) (fun k14 =>
     (if (st.1 64 ((a1 + 1) : Int32).toNatClampNeg) ≤ 40 then (
      k14 (x2 + (x2 / 2)))
     else (
      k14 0)))))
   else (
    (if (st.1 65 (a2 : Int32).toNatClampNeg) = 5 then (
     bo (j_X6_bits F x4 st) (fun (r19 : Int32) =>
     some (((x2 / 4) + 1) + r19 : Int32)))
    else (
     some (x2 : Int32))))))))))))))))
set_option maxHeartbeats 4000000 in
set_option maxRecDepth 100000 in
theorem c_X6_turnsOf (F : Nat) (a1 : Int32) (a2 : Int32) (st : sw_St) {r : Int32} (h : j_X6_turnsOf F a1 a2 st = some r) : sw_CI yX6_turnsOf (.code yX6_turnsOf cX6_turnsOf 5 (some .int)) 3 (fun g => [.ref (g.1 63), .int a1, .int a2]) st r st := by
  refine sw_entI RX6 (fun g => [(0, .ref (g.1 63)), (1, .int a1), (2, .int a2)]) (by decide) rfl (fun _ => Nat.le_of_ble_eq_true rfl) (fun _ => rfl) ?_
  intro p l e s m args below meth c g X hr hlk
  unfold j_X6_turnsOf at h
  refine sw_aload_n X 0 rfl rfl dX6_turnsOf_0 ?_
  refine sw_getR X sw_cl6 (show sw_kd 63 = 6 from rfl) (k := 3) rfl (by decide) (o1 := 66) rfl wf_X6_16 dX6_turnsOf_1 ?_
  refine sw_iload_n X 2 rfl rfl dX6_turnsOf_4 ?_
  obtain ⟨q1, h⟩ := bnd_E h
  refine sw_iald X (show sw_kd 66 = 8 from rfl) (n := 6) rfl q1 dX6_turnsOf_5 ?_
  refine sw_topi (fun x2 ex2 => ?_)
  have h := nm_E h ex2
  refine sw_istore_n X [(3, .int x2), (0, .ref (g.1 63)), (1, .int a1), (2, .int a2)] rfl (by decide) rfl dX6_turnsOf_6 ?_
  refine sw_aload_n X 1 rfl rfl dX6_turnsOf_7 ?_
  refine sw_getR X sw_cl6 (show sw_kd 63 = 6 from rfl) (k := 0) rfl (by decide) (o1 := 64) rfl wf_X6_7 dX6_turnsOf_8 ?_
  refine sw_iload_n X 2 rfl rfl dX6_turnsOf_11 ?_
  refine sw_iconst X (v := 5) (by decide) dX6_turnsOf_12 ?_
  refine sw_iadd X dX6_turnsOf_13 ?_
  obtain ⟨q3, h⟩ := bnd_E h
  refine sw_iald X (show sw_kd 64 = 8 from rfl) (n := 835) rfl q3 dX6_turnsOf_14 ?_
  refine sw_iconst X (v := 1) (by decide) dX6_turnsOf_15 ?_
  refine sw_iload_n X 3 rfl rfl dX6_turnsOf_16 ?_
  refine sw_ishl X dX6_turnsOf_17 ?_
  refine sw_iconst X (v := (-1)) (by decide) dX6_turnsOf_18 ?_
  refine sw_ixor X dX6_turnsOf_19 ?_
  refine sw_iand X dX6_turnsOf_20 ?_
  refine sw_topi (fun x4 ex4 => ?_)
  have h := nm_E h ex4
  refine sw_istore X [(4, .int x4), (3, .int x2), (0, .ref (g.1 63)), (1, .int a1), (2, .int a2)] (by decide) rfl dX6_turnsOf_21 ?_
  refine sw_aload_n X 2 rfl rfl dX6_turnsOf_23 ?_
  refine sw_getR X sw_cl6 (show sw_kd 63 = 6 from rfl) (k := 2) rfl (by decide) (o1 := 65) rfl wf_X6_13 dX6_turnsOf_24 ?_
  refine sw_iload_n X 4 rfl rfl dX6_turnsOf_27 ?_
  obtain ⟨q5, h⟩ := bnd_E h
  refine sw_iald X (show sw_kd 65 = 8 from rfl) (n := 6) rfl q5 dX6_turnsOf_28 ?_
  by_cases q6 : (st.1 65 (a2 : Int32).toNatClampNeg) = 1
  · have h := ite_T h q6
    refine sw_tabIn X (k := 1) (off := 35) 64 q6 (by decide) (by decide) (by decide) (by decide) dX6_turnsOf_29 ?_
    refine sw_iload_n X 1 rfl rfl dX6_turnsOf_64 ?_
    refine sw_iload_n X 1 rfl rfl dX6_turnsOf_65 ?_
    refine sw_iconst X (v := 2) (by decide) dX6_turnsOf_66 ?_
    refine sw_idiv X (by decide) dX6_turnsOf_67 ?_
    refine sw_iadd X dX6_turnsOf_68 ?_
    exact sw_iret X hr hlk dX6_turnsOf_69 (by cases h; rfl)
  · have h := ite_F h q6
    by_cases q7 : (st.1 65 (a2 : Int32).toNatClampNeg) = 2
    · have h := ite_T h q7
      refine sw_tabIn X (k := 2) (off := 41) 70 q7 (by decide) (by decide) (by decide) (by decide) dX6_turnsOf_29 ?_
      refine sw_iload_n X 1 rfl rfl dX6_turnsOf_70 ?_
      refine sw_iconst X (v := 4) (by decide) dX6_turnsOf_71 ?_
      refine sw_idiv X (by decide) dX6_turnsOf_72 ?_
      refine sw_iconst X (v := 1) (by decide) dX6_turnsOf_73 ?_
      refine sw_iadd X dX6_turnsOf_74 ?_
      exact sw_iret X hr hlk dX6_turnsOf_75 (by cases h; rfl)
    · have h := ite_F h q7
      by_cases q8 : (st.1 65 (a2 : Int32).toNatClampNeg) = 3
      · have h := ite_T h q8
        refine sw_tabIn X (k := 3) (off := 47) 76 q8 (by decide) (by decide) (by decide) (by decide) dX6_turnsOf_29 ?_
        refine sw_iload_n X 1 rfl rfl dX6_turnsOf_76 ?_
        refine sw_aload_n X 2 rfl rfl dX6_turnsOf_77 ?_
        refine sw_iload X 0 rfl dX6_turnsOf_78 ?_
        obtain ⟨r10, c9, h⟩ := bo_E h
        refine sw_callVI X (o := 63) (As := (fun g => [.int x4])) sw_cl6 (show sw_kd 63 = 6 from rfl) ws_X6_pilgrims (by omega) (c_X6_pilgrims F x4 st c9) rfl rfl (Nat.le_of_ble_eq_true rfl) wm_X6_143 dX6_turnsOf_80 ?_
        refine sw_iadd X dX6_turnsOf_83 ?_
        exact sw_iret X hr hlk dX6_turnsOf_84 (by cases h; rfl)
      · have h := ite_F h q8
        by_cases q11 : (st.1 65 (a2 : Int32).toNatClampNeg) = 4
        · have h := ite_T h q11
          refine sw_tabIn X (k := 4) (off := 56) 85 q11 (by decide) (by decide) (by decide) (by decide) dX6_turnsOf_29 ?_
          refine sw_aload_n X 2 rfl rfl dX6_turnsOf_85 ?_
          refine sw_getR X sw_cl6 (show sw_kd 63 = 6 from rfl) (k := 0) rfl (by decide) (o1 := 64) rfl wf_X6_7 dX6_turnsOf_86 ?_
          refine sw_iload_n X 3 rfl rfl dX6_turnsOf_89 ?_
          refine sw_iconst X (v := 1) (by decide) dX6_turnsOf_90 ?_
          refine sw_iadd X dX6_turnsOf_91 ?_
          obtain ⟨q12, h⟩ := bnd_E h
          refine sw_iald X (show sw_kd 64 = 8 from rfl) (n := 835) rfl q12 dX6_turnsOf_92 ?_
          refine sw_bipush X (v := 40) (by decide) dX6_turnsOf_93 ?_
          refine jn1_E (fun (x13 : Int32) => sw_V p l e 3 s m args below meth c g (sw_A g s.heap.size) (sw_QI below g args s r st) 5 107 [] [.int x13] st) h (fun x13 h => ?_) (fun k14 J15 h => ?_)
          · exact sw_iret X hr hlk dX6_turnsOf_107 (by cases h; rfl)
          · refine sw_icmp_le X 102 (by decide) dX6_turnsOf_95 (fun q16 => ?_) (fun q16 => ?_)
            · have h := ite_T h q16
              refine sw_iload_n X 1 rfl rfl dX6_turnsOf_102 ?_
              refine sw_iload_n X 1 rfl rfl dX6_turnsOf_103 ?_
              refine sw_iconst X (v := 2) (by decide) dX6_turnsOf_104 ?_
              refine sw_idiv X (by decide) dX6_turnsOf_105 ?_
              refine sw_iadd X dX6_turnsOf_106 ?_
              refine sw_sub [] rfl ?_
              exact J15 _ h
            · have h := ite_F h q16
              refine sw_iconst X (v := 0) (by decide) dX6_turnsOf_98 ?_
              refine sw_goto X 107 (by decide) dX6_turnsOf_99 ?_
              refine sw_sub [] rfl ?_
              exact J15 _ h
        · have h := ite_F h q11
          by_cases q17 : (st.1 65 (a2 : Int32).toNatClampNeg) = 5
          · have h := ite_T h q17
            refine sw_tabIn X (k := 5) (off := 79) 108 q17 (by decide) (by decide) (by decide) (by decide) dX6_turnsOf_29 ?_
            refine sw_iload_n X 1 rfl rfl dX6_turnsOf_108 ?_
            refine sw_iconst X (v := 4) (by decide) dX6_turnsOf_109 ?_
            refine sw_idiv X (by decide) dX6_turnsOf_110 ?_
            refine sw_iconst X (v := 1) (by decide) dX6_turnsOf_111 ?_
            refine sw_iadd X dX6_turnsOf_112 ?_
            refine sw_iload X 0 rfl dX6_turnsOf_113 ?_
            obtain ⟨r19, c18, h⟩ := bo_E h
            refine sw_callSI X (As := (fun g => [.int x4])) ws_X6_bits (by omega) (c_X6_bits F x4 st c18) rfl rfl (Nat.le_of_ble_eq_true rfl) wm_X6_146 dX6_turnsOf_115 ?_
            refine sw_iadd X dX6_turnsOf_118 ?_
            exact sw_iret X hr hlk dX6_turnsOf_119 (by cases h; rfl)
          · have h := ite_F h q17
            have n0 := lv_neT q6 (show (1 : Int32).toInt = 1 by decide)
            have n1 := lv_neT q7 (show (2 : Int32).toInt = 2 by decide)
            have n2 := lv_neT q8 (show (3 : Int32).toInt = 3 by decide)
            have n3 := lv_neT q11 (show (4 : Int32).toInt = 4 by decide)
            have n4 := lv_neT q17 (show (5 : Int32).toInt = 5 by decide)
            refine sw_tabOut X 120 (by omega) (by decide) dX6_turnsOf_29 ?_
            refine sw_iload_n X 1 rfl rfl dX6_turnsOf_120 ?_
            exact sw_iret X hr hlk dX6_turnsOf_121 (by cases h; rfl)
theorem dX6_comesIn_0 : decode cX6_comesIn 0 = .ok (.aload_n 0, 1) := by decide +kernel
theorem dX6_comesIn_1 : decode cX6_comesIn 1 = .ok (.iload_n 1, 1) := by decide +kernel
theorem dX6_comesIn_2 : decode cX6_comesIn 2 = .ok (.iload_n 2, 1) := by decide +kernel
theorem dX6_comesIn_3 : decode cX6_comesIn 3 = .ok (.invokevirtual 149, 3) := by decide +kernel
theorem dX6_comesIn_6 : decode cX6_comesIn 6 = .ok (.istore_n 3, 1) := by decide +kernel
theorem dX6_comesIn_7 : decode cX6_comesIn 7 = .ok (.aload_n 0, 1) := by decide +kernel
theorem dX6_comesIn_8 : decode cX6_comesIn 8 = .ok (.getfield 7, 3) := by decide +kernel
theorem dX6_comesIn_11 : decode cX6_comesIn 11 = .ok (.iload_n 1, 1) := by decide +kernel
theorem dX6_comesIn_12 : decode cX6_comesIn 12 = .ok (.iconst 1, 1) := by decide +kernel
theorem dX6_comesIn_13 : decode cX6_comesIn 13 = .ok (.iadd, 1) := by decide +kernel
theorem dX6_comesIn_14 : decode cX6_comesIn 14 = .ok (.iaload, 1) := by decide +kernel
theorem dX6_comesIn_15 : decode cX6_comesIn 15 = .ok (.aload_n 0, 1) := by decide +kernel
theorem dX6_comesIn_16 : decode cX6_comesIn 16 = .ok (.getfield 7, 3) := by decide +kernel
theorem dX6_comesIn_19 : decode cX6_comesIn 19 = .ok (.bipush 6, 2) := by decide +kernel
theorem dX6_comesIn_21 : decode cX6_comesIn 21 = .ok (.iaload, 1) := by decide +kernel
theorem dX6_comesIn_22 : decode cX6_comesIn 22 = .ok (.iload_n 2, 1) := by decide +kernel
theorem dX6_comesIn_23 : decode cX6_comesIn 23 = .ok (.invokestatic 139, 3) := by decide +kernel
theorem dX6_comesIn_26 : decode cX6_comesIn 26 = .ok (.ifCond .eq 8, 3) := by decide +kernel
theorem dX6_comesIn_29 : decode cX6_comesIn 29 = .ok (.iload_n 3, 1) := by decide +kernel
theorem dX6_comesIn_30 : decode cX6_comesIn 30 = .ok (.ineg, 1) := by decide +kernel
theorem dX6_comesIn_31 : decode cX6_comesIn 31 = .ok (.goto 4, 3) := by decide +kernel
theorem dX6_comesIn_34 : decode cX6_comesIn 34 = .ok (.iload_n 3, 1) := by decide +kernel
theorem dX6_comesIn_35 : decode cX6_comesIn 35 = .ok (.iadd, 1) := by decide +kernel
theorem dX6_comesIn_36 : decode cX6_comesIn 36 = .ok (.istore 4, 2) := by decide +kernel
theorem dX6_comesIn_38 : decode cX6_comesIn 38 = .ok (.iload 4, 2) := by decide +kernel
theorem dX6_comesIn_40 : decode cX6_comesIn 40 = .ok (.bipush 99, 2) := by decide +kernel
theorem dX6_comesIn_42 : decode cX6_comesIn 42 = .ok (.if_icmp .le 8, 3) := by decide +kernel
theorem dX6_comesIn_45 : decode cX6_comesIn 45 = .ok (.bipush 99, 2) := by decide +kernel
theorem dX6_comesIn_47 : decode cX6_comesIn 47 = .ok (.goto 14, 3) := by decide +kernel
theorem dX6_comesIn_50 : decode cX6_comesIn 50 = .ok (.iload 4, 2) := by decide +kernel
theorem dX6_comesIn_52 : decode cX6_comesIn 52 = .ok (.ifCond .ge 7, 3) := by decide +kernel
theorem dX6_comesIn_55 : decode cX6_comesIn 55 = .ok (.iconst 0, 1) := by decide +kernel
theorem dX6_comesIn_56 : decode cX6_comesIn 56 = .ok (.goto 5, 3) := by decide +kernel
theorem dX6_comesIn_59 : decode cX6_comesIn 59 = .ok (.iload 4, 2) := by decide +kernel
theorem dX6_comesIn_61 : decode cX6_comesIn 61 = .ok (.istore 4, 2) := by decide +kernel
theorem dX6_comesIn_63 : decode cX6_comesIn 63 = .ok (.aload_n 0, 1) := by decide +kernel
theorem dX6_comesIn_64 : decode cX6_comesIn 64 = .ok (.getfield 7, 3) := by decide +kernel
theorem dX6_comesIn_67 : decode cX6_comesIn 67 = .ok (.iload_n 1, 1) := by decide +kernel
theorem dX6_comesIn_68 : decode cX6_comesIn 68 = .ok (.iconst 1, 1) := by decide +kernel
theorem dX6_comesIn_69 : decode cX6_comesIn 69 = .ok (.iadd, 1) := by decide +kernel
theorem dX6_comesIn_70 : decode cX6_comesIn 70 = .ok (.iload 4, 2) := by decide +kernel
theorem dX6_comesIn_72 : decode cX6_comesIn 72 = .ok (.bipush 40, 2) := by decide +kernel
theorem dX6_comesIn_74 : decode cX6_comesIn 74 = .ok (.if_icmp .le 17, 3) := by decide +kernel
theorem dX6_comesIn_77 : decode cX6_comesIn 77 = .ok (.iload 4, 2) := by decide +kernel
theorem dX6_comesIn_79 : decode cX6_comesIn 79 = .ok (.iload 4, 2) := by decide +kernel
theorem dX6_comesIn_81 : decode cX6_comesIn 81 = .ok (.bipush 40, 2) := by decide +kernel
theorem dX6_comesIn_83 : decode cX6_comesIn 83 = .ok (.isub, 1) := by decide +kernel
theorem dX6_comesIn_84 : decode cX6_comesIn 84 = .ok (.bipush 10, 2) := by decide +kernel
theorem dX6_comesIn_86 : decode cX6_comesIn 86 = .ok (.idiv, 1) := by decide +kernel
theorem dX6_comesIn_87 : decode cX6_comesIn 87 = .ok (.isub, 1) := by decide +kernel
theorem dX6_comesIn_88 : decode cX6_comesIn 88 = .ok (.goto 5, 3) := by decide +kernel
theorem dX6_comesIn_91 : decode cX6_comesIn 91 = .ok (.iload 4, 2) := by decide +kernel
theorem dX6_comesIn_93 : decode cX6_comesIn 93 = .ok (.iastore, 1) := by decide +kernel
theorem dX6_comesIn_94 : decode cX6_comesIn 94 = .ok (.aload_n 0, 1) := by decide +kernel
theorem dX6_comesIn_95 : decode cX6_comesIn 95 = .ok (.getfield 7, 3) := by decide +kernel
theorem dX6_comesIn_98 : decode cX6_comesIn 98 = .ok (.iload_n 1, 1) := by decide +kernel
theorem dX6_comesIn_99 : decode cX6_comesIn 99 = .ok (.iconst 5, 1) := by decide +kernel
theorem dX6_comesIn_100 : decode cX6_comesIn 100 = .ok (.iadd, 1) := by decide +kernel
theorem dX6_comesIn_101 : decode cX6_comesIn 101 = .ok (.dup2, 1) := by decide +kernel
theorem dX6_comesIn_102 : decode cX6_comesIn 102 = .ok (.iaload, 1) := by decide +kernel
theorem dX6_comesIn_103 : decode cX6_comesIn 103 = .ok (.iconst 1, 1) := by decide +kernel
theorem dX6_comesIn_104 : decode cX6_comesIn 104 = .ok (.iload_n 2, 1) := by decide +kernel
theorem dX6_comesIn_105 : decode cX6_comesIn 105 = .ok (.ishl, 1) := by decide +kernel
theorem dX6_comesIn_106 : decode cX6_comesIn 106 = .ok (.ior, 1) := by decide +kernel
theorem dX6_comesIn_107 : decode cX6_comesIn 107 = .ok (.iastore, 1) := by decide +kernel
theorem dX6_comesIn_108 : decode cX6_comesIn 108 = .ok (.return_, 1) := by decide +kernel
def j_X6_comesIn (F : Nat) (a1 : Int32) (a2 : Int32) (st : sw_St) : Option (Unit × sw_St) :=
bo (j_X6_turnsOf F a1 a2 st) (fun (r2 : Int32) =>
bnd (a1 + 1) 835 (
bo (j_X6_has F (st.1 64 6) a2 st) (fun (r6 : Int32) =>
jn (fun (x7 : Int32) => 
  nm ((st.1 64 ((a1 + 1) : Int32).toNatClampNeg) + x7) (fun (x10 : Int32) =>
  jn (fun (x11 : Int32) => 
    jn (fun (x14 : Int32) => 
      bnd (a1 + 1) 835 (
      nm (sw_setC st 64 ((a1 + 1) : Int32).toNatClampNeg x14) (fun (s18 : sw_St) =>
      bnd (a1 + 5) 835 (
      bnd (a1 + 5) 835 (
      nm (sw_setC s18 64 ((a1 + 5) : Int32).toNatClampNeg ((s18.1 64 ((a1 + 5) : Int32).toNatClampNeg) ||| (1 <<< (a2 &&& 31)))) (fun (s21 : sw_St) =>
      some ((), s21))))))) (fun k15 =>
     (if x11 ≤ 40 then (
      k15 x11)
     else (
      k15 (x11 - ((x11 - 40) / 10)))))) (fun k12 =>
   (if x10 ≤ 99 then (
    (if 0 ≤ x10 then (
     k12 x10)
    else (
     k12 0)))
   else (
    k12 99))))) (fun k8 =>
 (if r6 = 0 then (
  k8 r2)
 else (
  k8 (-r2)))))))
set_option maxHeartbeats 4000000 in
set_option maxRecDepth 100000 in
theorem c_X6_comesIn (F : Nat) (a1 : Int32) (a2 : Int32) (st : sw_St) {st1 : sw_St} (h : j_X6_comesIn F a1 a2 st = some ((), st1)) : sw_CV yX6_comesIn (.code yX6_comesIn cX6_comesIn 5 none) 4 (fun g => [.ref (g.1 63), .int a1, .int a2]) st  st1 := by
  refine sw_entV RX6 (fun g => [(0, .ref (g.1 63)), (1, .int a1), (2, .int a2)]) (by decide) rfl (fun _ => Nat.le_of_ble_eq_true rfl) (fun _ => rfl) ?_
  intro p l e s m args below meth c g X hr hlk
  unfold j_X6_comesIn at h
  refine sw_aload_n X 0 rfl rfl dX6_comesIn_0 ?_
  refine sw_iload_n X 1 rfl rfl dX6_comesIn_1 ?_
  refine sw_iload_n X 2 rfl rfl dX6_comesIn_2 ?_
  obtain ⟨r2, c1, h⟩ := bo_E h
  refine sw_callVI X (o := 63) (As := (fun g => [.int a1, .int a2])) sw_cl6 (show sw_kd 63 = 6 from rfl) ws_X6_turnsOf (by omega) (c_X6_turnsOf F a1 a2 st c1) rfl rfl (Nat.le_of_ble_eq_true rfl) wm_X6_149 dX6_comesIn_3 ?_
  refine sw_istore_n X [(3, .int r2), (0, .ref (g.1 63)), (1, .int a1), (2, .int a2)] rfl (by decide) rfl dX6_comesIn_6 ?_
  refine sw_aload_n X 1 rfl rfl dX6_comesIn_7 ?_
  refine sw_getR X sw_cl6 (show sw_kd 63 = 6 from rfl) (k := 0) rfl (by decide) (o1 := 64) rfl wf_X6_7 dX6_comesIn_8 ?_
  refine sw_iload_n X 2 rfl rfl dX6_comesIn_11 ?_
  refine sw_iconst X (v := 1) (by decide) dX6_comesIn_12 ?_
  refine sw_iadd X dX6_comesIn_13 ?_
  obtain ⟨q3, h⟩ := bnd_E h
  refine sw_iald X (show sw_kd 64 = 8 from rfl) (n := 835) rfl q3 dX6_comesIn_14 ?_
  refine sw_aload_n X 1 rfl rfl dX6_comesIn_15 ?_
  refine sw_getR X sw_cl6 (show sw_kd 63 = 6 from rfl) (k := 0) rfl (by decide) (o1 := 64) rfl wf_X6_7 dX6_comesIn_16 ?_
  refine sw_bipush X (v := 6) (by decide) dX6_comesIn_19 ?_
  refine sw_iald X (show sw_kd 64 = 8 from rfl) (n := 835) rfl (i := 6) (by unfold vp_in; decide) dX6_comesIn_21 ?_
  refine sw_iload_n X 3 rfl rfl dX6_comesIn_22 ?_
  obtain ⟨r6, c5, h⟩ := bo_E h
  refine sw_callSI X (As := (fun g => [.int (st.1 64 6), .int a2])) ws_X6_has (by omega) (c_X6_has F (st.1 64 6) a2 st c5) rfl rfl (Nat.le_of_ble_eq_true rfl) wm_X6_139 dX6_comesIn_23 ?_
  refine jn1_E (fun (x7 : Int32) => sw_V p l e 4 s m args below meth c g (sw_A g s.heap.size) (sw_QV below g args s  st1) 5 35 [(0, .ref (g.1 63)), (1, .int a1), (2, .int a2)] [.int x7, .int (st.1 64 ((a1 + 1) : Int32).toNatClampNeg)] st) h (fun x7 h => ?_) (fun k8 J9 h => ?_)
  · refine sw_iadd X dX6_comesIn_35 ?_
    refine sw_topi (fun x10 ex10 => ?_)
    have h := nm_E h ex10
    refine sw_istore X [(4, .int x10), (0, .ref (g.1 63)), (1, .int a1), (2, .int a2)] (by decide) rfl dX6_comesIn_36 ?_
    refine sw_iload X 0 rfl dX6_comesIn_38 ?_
    refine sw_bipush X (v := 99) (by decide) dX6_comesIn_40 ?_
    refine jn1_E (fun (x11 : Int32) => sw_V p l e 4 s m args below meth c g (sw_A g s.heap.size) (sw_QV below g args s  st1) 5 61 [(0, .ref (g.1 63)), (1, .int a1), (2, .int a2)] [.int x11] st) h (fun x11 h => ?_) (fun k12 J13 h => ?_)
    · refine sw_istore X [(4, .int x11), (0, .ref (g.1 63)), (1, .int a1), (2, .int a2)] (by decide) rfl dX6_comesIn_61 ?_
      refine sw_aload_n X 1 rfl rfl dX6_comesIn_63 ?_
      refine sw_getR X sw_cl6 (show sw_kd 63 = 6 from rfl) (k := 0) rfl (by decide) (o1 := 64) rfl wf_X6_7 dX6_comesIn_64 ?_
      refine sw_iload_n X 2 rfl rfl dX6_comesIn_67 ?_
      refine sw_iconst X (v := 1) (by decide) dX6_comesIn_68 ?_
      refine sw_iadd X dX6_comesIn_69 ?_
      refine sw_iload X 0 rfl dX6_comesIn_70 ?_
      refine sw_bipush X (v := 40) (by decide) dX6_comesIn_72 ?_
      refine jn1_E (fun (x14 : Int32) => sw_V p l e 4 s m args below meth c g (sw_A g s.heap.size) (sw_QV below g args s  st1) 5 93 [(0, .ref (g.1 63)), (1, .int a1), (2, .int a2)] [.int x14, .int (a1 + 1), .ref (g.1 64)] st) h (fun x14 h => ?_) (fun k15 J16 h => ?_)
      · obtain ⟨q17, h⟩ := bnd_E h
        refine sw_iast X (show sw_kd 64 = 8 from rfl) (n := 835) rfl q17 dX6_comesIn_93 (fun s18 es18 => ?_)
        have h := nm_E h es18
        refine sw_aload_n X 0 rfl rfl dX6_comesIn_94 ?_
        refine sw_getR X sw_cl6 (show sw_kd 63 = 6 from rfl) (k := 0) rfl (by decide) (o1 := 64) rfl wf_X6_7 dX6_comesIn_95 ?_
        refine sw_iload_n X 1 rfl rfl dX6_comesIn_98 ?_
        refine sw_iconst X (v := 5) (by decide) dX6_comesIn_99 ?_
        refine sw_iadd X dX6_comesIn_100 ?_
        refine sw_dup2 X rfl rfl dX6_comesIn_101 ?_
        obtain ⟨q19, h⟩ := bnd_E h
        refine sw_iald X (show sw_kd 64 = 8 from rfl) (n := 835) rfl q19 dX6_comesIn_102 ?_
        refine sw_iconst X (v := 1) (by decide) dX6_comesIn_103 ?_
        refine sw_iload_n X 2 rfl rfl dX6_comesIn_104 ?_
        refine sw_ishl X dX6_comesIn_105 ?_
        refine sw_ior X dX6_comesIn_106 ?_
        obtain ⟨q20, h⟩ := bnd_E h
        refine sw_iast X (show sw_kd 64 = 8 from rfl) (n := 835) rfl q20 dX6_comesIn_107 (fun s21 es21 => ?_)
        have h := nm_E h es21
        exact sw_vret X hr hlk dX6_comesIn_108 h
      · refine sw_icmp_le X 91 (by decide) dX6_comesIn_74 (fun q22 => ?_) (fun q22 => ?_)
        · have h := ite_T h q22
          refine sw_iload X 0 rfl dX6_comesIn_91 ?_
          refine sw_sub [1, 2, 3] rfl ?_
          exact J16 _ h
        · have h := ite_F h q22
          refine sw_iload X 0 rfl dX6_comesIn_77 ?_
          refine sw_iload X 0 rfl dX6_comesIn_79 ?_
          refine sw_bipush X (v := 40) (by decide) dX6_comesIn_81 ?_
          refine sw_isub X dX6_comesIn_83 ?_
          refine sw_bipush X (v := 10) (by decide) dX6_comesIn_84 ?_
          refine sw_idiv X (by decide) dX6_comesIn_86 ?_
          refine sw_isub X dX6_comesIn_87 ?_
          refine sw_goto X 93 (by decide) dX6_comesIn_88 ?_
          refine sw_sub [1, 2, 3] rfl ?_
          exact J16 _ h
    · refine sw_icmp_le X 50 (by decide) dX6_comesIn_42 (fun q23 => ?_) (fun q23 => ?_)
      · have h := ite_T h q23
        refine sw_iload X 0 rfl dX6_comesIn_50 ?_
        refine sw_if_ge X 59 (by decide) dX6_comesIn_52 (fun q24 => ?_) (fun q24 => ?_)
        · have h := ite_T h q24
          refine sw_iload X 0 rfl dX6_comesIn_59 ?_
          refine sw_sub [1, 2, 3] rfl ?_
          exact J13 _ h
        · have h := ite_F h q24
          refine sw_iconst X (v := 0) (by decide) dX6_comesIn_55 ?_
          refine sw_goto X 61 (by decide) dX6_comesIn_56 ?_
          refine sw_sub [1, 2, 3] rfl ?_
          exact J13 _ h
      · have h := ite_F h q23
        refine sw_bipush X (v := 99) (by decide) dX6_comesIn_45 ?_
        refine sw_goto X 61 (by decide) dX6_comesIn_47 ?_
        refine sw_sub [1, 2, 3] rfl ?_
        exact J13 _ h
  · refine sw_if_eq X 34 (by decide) dX6_comesIn_26 (fun q25 => ?_) (fun q25 => ?_)
    · have h := ite_T h q25
      refine sw_iload_n X 0 rfl rfl dX6_comesIn_34 ?_
      refine sw_sub [1, 2, 3] rfl ?_
      exact J9 _ h
    · have h := ite_F h q25
      refine sw_iload_n X 0 rfl rfl dX6_comesIn_29 ?_
      refine sw_ineg X dX6_comesIn_30 ?_
      refine sw_goto X 35 (by decide) dX6_comesIn_31 ?_
      refine sw_sub [1, 2, 3] rfl ?_
      exact J9 _ h
theorem dX6_pass_0 : decode cX6_pass 0 = .ok (.aload_n 0, 1) := by decide +kernel
theorem dX6_pass_1 : decode cX6_pass 1 = .ok (.getfield 7, 3) := by decide +kernel
theorem dX6_pass_4 : decode cX6_pass 4 = .ok (.iload_n 1, 1) := by decide +kernel
theorem dX6_pass_5 : decode cX6_pass 5 = .ok (.iconst 1, 1) := by decide +kernel
theorem dX6_pass_6 : decode cX6_pass 6 = .ok (.iadd, 1) := by decide +kernel
theorem dX6_pass_7 : decode cX6_pass 7 = .ok (.iaload, 1) := by decide +kernel
theorem dX6_pass_8 : decode cX6_pass 8 = .ok (.istore_n 2, 1) := by decide +kernel
theorem dX6_pass_9 : decode cX6_pass 9 = .ok (.aload_n 0, 1) := by decide +kernel
theorem dX6_pass_10 : decode cX6_pass 10 = .ok (.getfield 7, 3) := by decide +kernel
theorem dX6_pass_13 : decode cX6_pass 13 = .ok (.iload_n 1, 1) := by decide +kernel
theorem dX6_pass_14 : decode cX6_pass 14 = .ok (.iconst 3, 1) := by decide +kernel
theorem dX6_pass_15 : decode cX6_pass 15 = .ok (.iadd, 1) := by decide +kernel
theorem dX6_pass_16 : decode cX6_pass 16 = .ok (.dup2, 1) := by decide +kernel
theorem dX6_pass_17 : decode cX6_pass 17 = .ok (.iaload, 1) := by decide +kernel
theorem dX6_pass_18 : decode cX6_pass 18 = .ok (.iconst 1, 1) := by decide +kernel
theorem dX6_pass_19 : decode cX6_pass 19 = .ok (.iadd, 1) := by decide +kernel
theorem dX6_pass_20 : decode cX6_pass 20 = .ok (.iastore, 1) := by decide +kernel
theorem dX6_pass_21 : decode cX6_pass 21 = .ok (.iload_n 2, 1) := by decide +kernel
theorem dX6_pass_22 : decode cX6_pass 22 = .ok (.ifCond .ne 5, 3) := by decide +kernel
theorem dX6_pass_25 : decode cX6_pass 25 = .ok (.iconst 0, 1) := by decide +kernel
theorem dX6_pass_26 : decode cX6_pass 26 = .ok (.ireturn, 1) := by decide +kernel
theorem dX6_pass_27 : decode cX6_pass 27 = .ok (.iload_n 2, 1) := by decide +kernel
theorem dX6_pass_28 : decode cX6_pass 28 = .ok (.iconst 1, 1) := by decide +kernel
theorem dX6_pass_29 : decode cX6_pass 29 = .ok (.aload_n 0, 1) := by decide +kernel
theorem dX6_pass_30 : decode cX6_pass 30 = .ok (.getfield 7, 3) := by decide +kernel
theorem dX6_pass_33 : decode cX6_pass 33 = .ok (.iload_n 1, 1) := by decide +kernel
theorem dX6_pass_34 : decode cX6_pass 34 = .ok (.iconst 4, 1) := by decide +kernel
theorem dX6_pass_35 : decode cX6_pass 35 = .ok (.iadd, 1) := by decide +kernel
theorem dX6_pass_36 : decode cX6_pass 36 = .ok (.iaload, 1) := by decide +kernel
theorem dX6_pass_37 : decode cX6_pass 37 = .ok (.iadd, 1) := by decide +kernel
theorem dX6_pass_38 : decode cX6_pass 38 = .ok (.isub, 1) := by decide +kernel
theorem dX6_pass_39 : decode cX6_pass 39 = .ok (.istore_n 2, 1) := by decide +kernel
theorem dX6_pass_40 : decode cX6_pass 40 = .ok (.aload_n 0, 1) := by decide +kernel
theorem dX6_pass_41 : decode cX6_pass 41 = .ok (.getfield 7, 3) := by decide +kernel
theorem dX6_pass_44 : decode cX6_pass 44 = .ok (.iload_n 1, 1) := by decide +kernel
theorem dX6_pass_45 : decode cX6_pass 45 = .ok (.iconst 1, 1) := by decide +kernel
theorem dX6_pass_46 : decode cX6_pass 46 = .ok (.iadd, 1) := by decide +kernel
theorem dX6_pass_47 : decode cX6_pass 47 = .ok (.iload_n 2, 1) := by decide +kernel
theorem dX6_pass_48 : decode cX6_pass 48 = .ok (.ifCond .ge 7, 3) := by decide +kernel
theorem dX6_pass_51 : decode cX6_pass 51 = .ok (.iconst 0, 1) := by decide +kernel
theorem dX6_pass_52 : decode cX6_pass 52 = .ok (.goto 4, 3) := by decide +kernel
theorem dX6_pass_55 : decode cX6_pass 55 = .ok (.iload_n 2, 1) := by decide +kernel
theorem dX6_pass_56 : decode cX6_pass 56 = .ok (.iastore, 1) := by decide +kernel
theorem dX6_pass_57 : decode cX6_pass 57 = .ok (.aload_n 0, 1) := by decide +kernel
theorem dX6_pass_58 : decode cX6_pass 58 = .ok (.getfield 7, 3) := by decide +kernel
theorem dX6_pass_61 : decode cX6_pass 61 = .ok (.iload_n 1, 1) := by decide +kernel
theorem dX6_pass_62 : decode cX6_pass 62 = .ok (.iconst 2, 1) := by decide +kernel
theorem dX6_pass_63 : decode cX6_pass 63 = .ok (.iadd, 1) := by decide +kernel
theorem dX6_pass_64 : decode cX6_pass 64 = .ok (.aload_n 0, 1) := by decide +kernel
theorem dX6_pass_65 : decode cX6_pass 65 = .ok (.getfield 7, 3) := by decide +kernel
theorem dX6_pass_68 : decode cX6_pass 68 = .ok (.iload_n 1, 1) := by decide +kernel
theorem dX6_pass_69 : decode cX6_pass 69 = .ok (.iconst 2, 1) := by decide +kernel
theorem dX6_pass_70 : decode cX6_pass 70 = .ok (.iadd, 1) := by decide +kernel
theorem dX6_pass_71 : decode cX6_pass 71 = .ok (.iaload, 1) := by decide +kernel
theorem dX6_pass_72 : decode cX6_pass 72 = .ok (.iconst 1, 1) := by decide +kernel
theorem dX6_pass_73 : decode cX6_pass 73 = .ok (.iadd, 1) := by decide +kernel
theorem dX6_pass_74 : decode cX6_pass 74 = .ok (.bipush 12, 2) := by decide +kernel
theorem dX6_pass_76 : decode cX6_pass 76 = .ok (.irem, 1) := by decide +kernel
theorem dX6_pass_77 : decode cX6_pass 77 = .ok (.iastore, 1) := by decide +kernel
theorem dX6_pass_78 : decode cX6_pass 78 = .ok (.aload_n 0, 1) := by decide +kernel
theorem dX6_pass_79 : decode cX6_pass 79 = .ok (.getfield 7, 3) := by decide +kernel
theorem dX6_pass_82 : decode cX6_pass 82 = .ok (.iload_n 1, 1) := by decide +kernel
theorem dX6_pass_83 : decode cX6_pass 83 = .ok (.iconst 1, 1) := by decide +kernel
theorem dX6_pass_84 : decode cX6_pass 84 = .ok (.iadd, 1) := by decide +kernel
theorem dX6_pass_85 : decode cX6_pass 85 = .ok (.iaload, 1) := by decide +kernel
theorem dX6_pass_86 : decode cX6_pass 86 = .ok (.bipush 10, 2) := by decide +kernel
theorem dX6_pass_88 : decode cX6_pass 88 = .ok (.idiv, 1) := by decide +kernel
theorem dX6_pass_89 : decode cX6_pass 89 = .ok (.iconst 1, 1) := by decide +kernel
theorem dX6_pass_90 : decode cX6_pass 90 = .ok (.iadd, 1) := by decide +kernel
theorem dX6_pass_91 : decode cX6_pass 91 = .ok (.ireturn, 1) := by decide +kernel
def j_X6_pass (F : Nat) (a1 : Int32) (st : sw_St) : Option (Int32 × sw_St) :=
bnd (a1 + 1) 835 (
nm (st.1 64 ((a1 + 1) : Int32).toNatClampNeg) (fun (x2 : Int32) =>
bnd (a1 + 3) 835 (
bnd (a1 + 3) 835 (
nm (sw_setC st 64 ((a1 + 3) : Int32).toNatClampNeg ((st.1 64 ((a1 + 3) : Int32).toNatClampNeg) + 1)) (fun (s5 : sw_St) =>
(if x2 = 0 then (
 some ((0 : Int32), s5))
else (
 bnd (a1 + 4) 835 (
 nm (x2 - (1 + (s5.1 64 ((a1 + 4) : Int32).toNatClampNeg))) (fun (x8 : Int32) =>
 jn (fun (x9 : Int32) => 
   bnd (a1 + 1) 835 (
   nm (sw_setC s5 64 ((a1 + 1) : Int32).toNatClampNeg x9) (fun (s13 : sw_St) =>
   bnd (a1 + 2) 835 (
   bnd (a1 + 2) 835 (
   nm (sw_setC s13 64 ((a1 + 2) : Int32).toNatClampNeg (((s13.1 64 ((a1 + 2) : Int32).toNatClampNeg) + 1) - ((s13.1 64 ((a1 + 2) : Int32).toNatClampNeg) + 1) / 12 * 12)) (fun (s16 : sw_St) =>
   bnd (a1 + 1) 835 (
   some ((((s16.1 64 ((a1 + 1) : Int32).toNatClampNeg) / 10) + 1 : Int32), s16)))))))) (fun k10 =>
  (if 0 ≤ x8 then (
   k10 x8)
  else (
   k10 0))))))))))))
set_option maxHeartbeats 4000000 in
set_option maxRecDepth 100000 in
theorem c_X6_pass (F : Nat) (a1 : Int32) (st : sw_St) {r : Int32} {st1 : sw_St} (h : j_X6_pass F a1 st = some (r, st1)) : sw_CI yX6_pass (.code yX6_pass cX6_pass 3 (some .int)) 1 (fun g => [.ref (g.1 63), .int a1]) st r st1 := by
  refine sw_entI RX6 (fun g => [(0, .ref (g.1 63)), (1, .int a1)]) (by decide) rfl (fun _ => Nat.le_of_ble_eq_true rfl) (fun _ => rfl) ?_
  intro p l e s m args below meth c g X hr hlk
  unfold j_X6_pass at h
  refine sw_aload_n X 0 rfl rfl dX6_pass_0 ?_
  refine sw_getR X sw_cl6 (show sw_kd 63 = 6 from rfl) (k := 0) rfl (by decide) (o1 := 64) rfl wf_X6_7 dX6_pass_1 ?_
  refine sw_iload_n X 1 rfl rfl dX6_pass_4 ?_
  refine sw_iconst X (v := 1) (by decide) dX6_pass_5 ?_
  refine sw_iadd X dX6_pass_6 ?_
  obtain ⟨q1, h⟩ := bnd_E h
  refine sw_iald X (show sw_kd 64 = 8 from rfl) (n := 835) rfl q1 dX6_pass_7 ?_
  refine sw_topi (fun x2 ex2 => ?_)
  have h := nm_E h ex2
  refine sw_istore_n X [(2, .int x2), (0, .ref (g.1 63)), (1, .int a1)] rfl (by decide) rfl dX6_pass_8 ?_
  refine sw_aload_n X 1 rfl rfl dX6_pass_9 ?_
  refine sw_getR X sw_cl6 (show sw_kd 63 = 6 from rfl) (k := 0) rfl (by decide) (o1 := 64) rfl wf_X6_7 dX6_pass_10 ?_
  refine sw_iload_n X 2 rfl rfl dX6_pass_13 ?_
  refine sw_iconst X (v := 3) (by decide) dX6_pass_14 ?_
  refine sw_iadd X dX6_pass_15 ?_
  refine sw_dup2 X rfl rfl dX6_pass_16 ?_
  obtain ⟨q3, h⟩ := bnd_E h
  refine sw_iald X (show sw_kd 64 = 8 from rfl) (n := 835) rfl q3 dX6_pass_17 ?_
  refine sw_iconst X (v := 1) (by decide) dX6_pass_18 ?_
  refine sw_iadd X dX6_pass_19 ?_
  obtain ⟨q4, h⟩ := bnd_E h
  refine sw_iast X (show sw_kd 64 = 8 from rfl) (n := 835) rfl q4 dX6_pass_20 (fun s5 es5 => ?_)
  have h := nm_E h es5
  refine sw_iload_n X 0 rfl rfl dX6_pass_21 ?_
  refine sw_if_ne X 27 (by decide) dX6_pass_22 (fun q6 => ?_) (fun q6 => ?_)
  · have h := ite_F h q6
    refine sw_iload_n X 0 rfl rfl dX6_pass_27 ?_
    refine sw_iconst X (v := 1) (by decide) dX6_pass_28 ?_
    refine sw_aload_n X 1 rfl rfl dX6_pass_29 ?_
    refine sw_getR X sw_cl6 (show sw_kd 63 = 6 from rfl) (k := 0) rfl (by decide) (o1 := 64) rfl wf_X6_7 dX6_pass_30 ?_
    refine sw_iload_n X 2 rfl rfl dX6_pass_33 ?_
    refine sw_iconst X (v := 4) (by decide) dX6_pass_34 ?_
    refine sw_iadd X dX6_pass_35 ?_
    obtain ⟨q7, h⟩ := bnd_E h
    refine sw_iald X (show sw_kd 64 = 8 from rfl) (n := 835) rfl q7 dX6_pass_36 ?_
    refine sw_iadd X dX6_pass_37 ?_
    refine sw_isub X dX6_pass_38 ?_
    refine sw_topi (fun x8 ex8 => ?_)
    have h := nm_E h ex8
    refine sw_istore_n X [(2, .int x8), (0, .ref (g.1 63)), (1, .int a1)] rfl (by decide) rfl dX6_pass_39 ?_
    refine sw_aload_n X 1 rfl rfl dX6_pass_40 ?_
    refine sw_getR X sw_cl6 (show sw_kd 63 = 6 from rfl) (k := 0) rfl (by decide) (o1 := 64) rfl wf_X6_7 dX6_pass_41 ?_
    refine sw_iload_n X 2 rfl rfl dX6_pass_44 ?_
    refine sw_iconst X (v := 1) (by decide) dX6_pass_45 ?_
    refine sw_iadd X dX6_pass_46 ?_
    refine sw_iload_n X 0 rfl rfl dX6_pass_47 ?_
    refine jn1_E (fun (x9 : Int32) => sw_V p l e 1 s m args below meth c g (sw_A g s.heap.size) (sw_QI below g args s r st1) 3 56 [(0, .ref (g.1 63)), (1, .int a1)] [.int x9, .int (a1 + 1), .ref (g.1 64)] s5) h (fun x9 h => ?_) (fun k10 J11 h => ?_)
    · obtain ⟨q12, h⟩ := bnd_E h
      refine sw_iast X (show sw_kd 64 = 8 from rfl) (n := 835) rfl q12 dX6_pass_56 (fun s13 es13 => ?_)
      have h := nm_E h es13
      refine sw_aload_n X 0 rfl rfl dX6_pass_57 ?_
      refine sw_getR X sw_cl6 (show sw_kd 63 = 6 from rfl) (k := 0) rfl (by decide) (o1 := 64) rfl wf_X6_7 dX6_pass_58 ?_
      refine sw_iload_n X 1 rfl rfl dX6_pass_61 ?_
      refine sw_iconst X (v := 2) (by decide) dX6_pass_62 ?_
      refine sw_iadd X dX6_pass_63 ?_
      refine sw_aload_n X 0 rfl rfl dX6_pass_64 ?_
      refine sw_getR X sw_cl6 (show sw_kd 63 = 6 from rfl) (k := 0) rfl (by decide) (o1 := 64) rfl wf_X6_7 dX6_pass_65 ?_
      refine sw_iload_n X 1 rfl rfl dX6_pass_68 ?_
      refine sw_iconst X (v := 2) (by decide) dX6_pass_69 ?_
      refine sw_iadd X dX6_pass_70 ?_
      obtain ⟨q14, h⟩ := bnd_E h
      refine sw_iald X (show sw_kd 64 = 8 from rfl) (n := 835) rfl q14 dX6_pass_71 ?_
      refine sw_iconst X (v := 1) (by decide) dX6_pass_72 ?_
      refine sw_iadd X dX6_pass_73 ?_
      refine sw_bipush X (v := 12) (by decide) dX6_pass_74 ?_
      refine sw_irem X (by decide) dX6_pass_76 ?_
      obtain ⟨q15, h⟩ := bnd_E h
      refine sw_iast X (show sw_kd 64 = 8 from rfl) (n := 835) rfl q15 dX6_pass_77 (fun s16 es16 => ?_)
      have h := nm_E h es16
      refine sw_aload_n X 0 rfl rfl dX6_pass_78 ?_
      refine sw_getR X sw_cl6 (show sw_kd 63 = 6 from rfl) (k := 0) rfl (by decide) (o1 := 64) rfl wf_X6_7 dX6_pass_79 ?_
      refine sw_iload_n X 1 rfl rfl dX6_pass_82 ?_
      refine sw_iconst X (v := 1) (by decide) dX6_pass_83 ?_
      refine sw_iadd X dX6_pass_84 ?_
      obtain ⟨q17, h⟩ := bnd_E h
      refine sw_iald X (show sw_kd 64 = 8 from rfl) (n := 835) rfl q17 dX6_pass_85 ?_
      refine sw_bipush X (v := 10) (by decide) dX6_pass_86 ?_
      refine sw_idiv X (by decide) dX6_pass_88 ?_
      refine sw_iconst X (v := 1) (by decide) dX6_pass_89 ?_
      refine sw_iadd X dX6_pass_90 ?_
      exact sw_iret X hr hlk dX6_pass_91 h
    · refine sw_if_ge X 55 (by decide) dX6_pass_48 (fun q18 => ?_) (fun q18 => ?_)
      · have h := ite_T h q18
        refine sw_iload_n X 0 rfl rfl dX6_pass_55 ?_
        refine sw_sub [1, 2] rfl ?_
        exact J11 _ h
      · have h := ite_F h q18
        refine sw_iconst X (v := 0) (by decide) dX6_pass_51 ?_
        refine sw_goto X 56 (by decide) dX6_pass_52 ?_
        refine sw_sub [1, 2] rfl ?_
        exact J11 _ h
  · have h := ite_T h q6
    refine sw_iconst X (v := 0) (by decide) dX6_pass_25 ?_
    exact sw_iret X hr hlk dX6_pass_26 h
theorem dX6_layTried_0 : decode cX6_layTried 0 = .ok (.iconst 0, 1) := by decide +kernel
theorem dX6_layTried_1 : decode cX6_layTried 1 = .ok (.istore_n 1, 1) := by decide +kernel
theorem dX6_layTried_2 : decode cX6_layTried 2 = .ok (.iload_n 1, 1) := by decide +kernel
theorem dX6_layTried_3 : decode cX6_layTried 3 = .ok (.bipush 7, 2) := by decide +kernel
theorem dX6_layTried_5 : decode cX6_layTried 5 = .ok (.if_icmp .ge 25, 3) := by decide +kernel
theorem dX6_layTried_8 : decode cX6_layTried 8 = .ok (.aload_n 0, 1) := by decide +kernel
theorem dX6_layTried_9 : decode cX6_layTried 9 = .ok (.getfield 7, 3) := by decide +kernel
theorem dX6_layTried_12 : decode cX6_layTried 12 = .ok (.sipush 828, 3) := by decide +kernel
theorem dX6_layTried_15 : decode cX6_layTried 15 = .ok (.iload_n 1, 1) := by decide +kernel
theorem dX6_layTried_16 : decode cX6_layTried 16 = .ok (.iadd, 1) := by decide +kernel
theorem dX6_layTried_17 : decode cX6_layTried 17 = .ok (.aload_n 0, 1) := by decide +kernel
theorem dX6_layTried_18 : decode cX6_layTried 18 = .ok (.getfield 7, 3) := by decide +kernel
theorem dX6_layTried_21 : decode cX6_layTried 21 = .ok (.iload_n 1, 1) := by decide +kernel
theorem dX6_layTried_22 : decode cX6_layTried 22 = .ok (.iaload, 1) := by decide +kernel
theorem dX6_layTried_23 : decode cX6_layTried 23 = .ok (.iastore, 1) := by decide +kernel
theorem dX6_layTried_24 : decode cX6_layTried 24 = .ok (.iinc 1 1, 3) := by decide +kernel
theorem dX6_layTried_27 : decode cX6_layTried 27 = .ok (.goto (-25), 3) := by decide +kernel
theorem dX6_layTried_30 : decode cX6_layTried 30 = .ok (.return_, 1) := by decide +kernel
def j_X6_layTried (F : Nat) (st : sw_St) : Option (Unit × sw_St) :=
lz2 (fun f3 (x1 : Int32) (s2 : sw_St) =>
 (if 7 ≤ x1 then (
  some ((), s2))
 else (
  bnd x1 835 (
  bnd (828 + x1) 835 (
  nm (sw_setC s2 64 ((828 + x1) : Int32).toNatClampNeg (s2.1 64 (x1 : Int32).toNatClampNeg)) (fun (s8 : sw_St) =>
  nm (x1 + 1) (fun (x9 : Int32) =>
  f3 x9 s8))))))) F 0 st
set_option maxHeartbeats 4000000 in
set_option maxRecDepth 100000 in
theorem c_X6_layTried (F : Nat) (st : sw_St) {st1 : sw_St} (h : j_X6_layTried F  st = some ((), st1)) : sw_CV yX6_layTried (.code yX6_layTried cX6_layTried 2 none) 1 (fun g => [.ref (g.1 63)]) st  st1 := by
  refine sw_entV RX6 (fun g => [(0, .ref (g.1 63))]) (by decide) rfl (fun _ => Nat.le_of_ble_eq_true rfl) (fun _ => rfl) ?_
  intro p l e s m args below meth c g X hr hlk
  unfold j_X6_layTried at h
  refine sw_iconst X (v := 0) (by decide) dX6_layTried_0 ?_
  refine sw_istore_n X [(1, .int 0), (0, .ref (g.1 63))] rfl (by decide) rfl dX6_layTried_1 ?_
  refine sw_sub [1, 0] rfl ?_
  refine lz2_E (fun (x1 : Int32) (s2 : sw_St) => sw_V p l e 1 s m args below meth c g (sw_A g s.heap.size) (sw_QV below g args s  st1) 2 2 [(0, .ref (g.1 63)), (1, .int x1)] [] s2) h (fun f3 ih4 x1 s2 h => ?_)
  refine sw_iload_n X 1 rfl rfl dX6_layTried_2 ?_
  refine sw_bipush X (v := 7) (by decide) dX6_layTried_3 ?_
  refine sw_icmp_ge X 30 (by decide) dX6_layTried_5 (fun q5 => ?_) (fun q5 => ?_)
  · have h := ite_T h q5
    exact sw_vret X hr hlk dX6_layTried_30 h
  · have h := ite_F h q5
    refine sw_aload_n X 0 rfl rfl dX6_layTried_8 ?_
    refine sw_getR X sw_cl6 (show sw_kd 63 = 6 from rfl) (k := 0) rfl (by decide) (o1 := 64) rfl wf_X6_7 dX6_layTried_9 ?_
    refine sw_sipush X (v := 828) (by decide) dX6_layTried_12 ?_
    refine sw_iload_n X 1 rfl rfl dX6_layTried_15 ?_
    refine sw_iadd X dX6_layTried_16 ?_
    refine sw_aload_n X 0 rfl rfl dX6_layTried_17 ?_
    refine sw_getR X sw_cl6 (show sw_kd 63 = 6 from rfl) (k := 0) rfl (by decide) (o1 := 64) rfl wf_X6_7 dX6_layTried_18 ?_
    refine sw_iload_n X 1 rfl rfl dX6_layTried_21 ?_
    obtain ⟨q6, h⟩ := bnd_E h
    refine sw_iald X (show sw_kd 64 = 8 from rfl) (n := 835) rfl q6 dX6_layTried_22 ?_
    obtain ⟨q7, h⟩ := bnd_E h
    refine sw_iast X (show sw_kd 64 = 8 from rfl) (n := 835) rfl q7 dX6_layTried_23 (fun s8 es8 => ?_)
    have h := nm_E h es8
    obtain ⟨x9, ex9⟩ : ∃ y : Int32, y = x1 + 1 := ⟨_, rfl⟩
    have h := nm_E h ex9
    refine sw_iinc X 1 x9 [(1, .int x9), (0, .ref (g.1 63))] rfl (by rw [ex9]; rfl) (by decide) rfl dX6_layTried_24 ?_
    refine sw_goto X 2 (by decide) dX6_layTried_27 ?_
    refine sw_sub [1, 0] rfl ?_
    exact ih4 _ _ h
theorem dX6_comeTried_0 : decode cX6_comeTried 0 = .ok (.iconst 0, 1) := by decide +kernel
theorem dX6_comeTried_1 : decode cX6_comeTried 1 = .ok (.istore_n 2, 1) := by decide +kernel
theorem dX6_comeTried_2 : decode cX6_comeTried 2 = .ok (.iload_n 2, 1) := by decide +kernel
theorem dX6_comeTried_3 : decode cX6_comeTried 3 = .ok (.aload_n 0, 1) := by decide +kernel
theorem dX6_comeTried_4 : decode cX6_comeTried 4 = .ok (.getfield 136, 3) := by decide +kernel
theorem dX6_comeTried_7 : decode cX6_comeTried 7 = .ok (.if_icmp .ge 25, 3) := by decide +kernel
theorem dX6_comeTried_10 : decode cX6_comeTried 10 = .ok (.iload_n 1, 1) := by decide +kernel
theorem dX6_comeTried_11 : decode cX6_comeTried 11 = .ok (.iload_n 2, 1) := by decide +kernel
theorem dX6_comeTried_12 : decode cX6_comeTried 12 = .ok (.invokestatic 139, 3) := by decide +kernel
theorem dX6_comeTried_15 : decode cX6_comeTried 15 = .ok (.ifCond .eq 11, 3) := by decide +kernel
theorem dX6_comeTried_18 : decode cX6_comeTried 18 = .ok (.aload_n 0, 1) := by decide +kernel
theorem dX6_comeTried_19 : decode cX6_comeTried 19 = .ok (.sipush 828, 3) := by decide +kernel
theorem dX6_comeTried_22 : decode cX6_comeTried 22 = .ok (.iload_n 2, 1) := by decide +kernel
theorem dX6_comeTried_23 : decode cX6_comeTried 23 = .ok (.invokevirtual 152, 3) := by decide +kernel
theorem dX6_comeTried_26 : decode cX6_comeTried 26 = .ok (.iinc 2 1, 3) := by decide +kernel
theorem dX6_comeTried_29 : decode cX6_comeTried 29 = .ok (.goto (-27), 3) := by decide +kernel
theorem dX6_comeTried_32 : decode cX6_comeTried 32 = .ok (.return_, 1) := by decide +kernel
def j_X6_comeTried (F : Nat) (a1 : Int32) (st : sw_St) : Option (Unit × sw_St) :=
lz2 (fun f3 (x1 : Int32) (s2 : sw_St) =>
 (if (s2.1 63 1) ≤ x1 then (
  some ((), s2))
 else (
  bo (j_X6_has F a1 x1 s2) (fun (r7 : Int32) =>
  jn (fun (s8 : sw_St) => 
    nm (x1 + 1) (fun (x11 : Int32) =>
    f3 x11 s8)) (fun k9 =>
   (if r7 = 0 then (
    k9 s2)
   else (
    bd (j_X6_comesIn F 828 x1 s2) (fun (_ : Unit) (s14 : sw_St) =>
    k9 s14)))))))) F 0 st
set_option maxHeartbeats 4000000 in
set_option maxRecDepth 100000 in
theorem c_X6_comeTried (F : Nat) (a1 : Int32) (st : sw_St) {st1 : sw_St} (h : j_X6_comeTried F a1 st = some ((), st1)) : sw_CV yX6_comeTried (.code yX6_comeTried cX6_comeTried 3 none) 5 (fun g => [.ref (g.1 63), .int a1]) st  st1 := by
  refine sw_entV RX6 (fun g => [(0, .ref (g.1 63)), (1, .int a1)]) (by decide) rfl (fun _ => Nat.le_of_ble_eq_true rfl) (fun _ => rfl) ?_
  intro p l e s m args below meth c g X hr hlk
  unfold j_X6_comeTried at h
  refine sw_iconst X (v := 0) (by decide) dX6_comeTried_0 ?_
  refine sw_istore_n X [(2, .int 0), (0, .ref (g.1 63)), (1, .int a1)] rfl (by decide) rfl dX6_comeTried_1 ?_
  refine sw_sub [1, 2, 0] rfl ?_
  refine lz2_E (fun (x1 : Int32) (s2 : sw_St) => sw_V p l e 5 s m args below meth c g (sw_A g s.heap.size) (sw_QV below g args s  st1) 3 2 [(0, .ref (g.1 63)), (1, .int a1), (2, .int x1)] [] s2) h (fun f3 ih4 x1 s2 h => ?_)
  refine sw_iload_n X 2 rfl rfl dX6_comeTried_2 ?_
  refine sw_aload_n X 0 rfl rfl dX6_comeTried_3 ?_
  refine sw_getI X sw_cl6 (show sw_kd 63 = 6 from rfl) (k := 1) rfl (by decide) wf_X6_136 dX6_comeTried_4 ?_
  refine sw_icmp_ge X 32 (by decide) dX6_comeTried_7 (fun q5 => ?_) (fun q5 => ?_)
  · have h := ite_T h q5
    exact sw_vret X hr hlk dX6_comeTried_32 h
  · have h := ite_F h q5
    refine sw_iload_n X 1 rfl rfl dX6_comeTried_10 ?_
    refine sw_iload_n X 2 rfl rfl dX6_comeTried_11 ?_
    obtain ⟨r7, c6, h⟩ := bo_E h
    refine sw_callSI X (As := (fun g => [.int a1, .int x1])) ws_X6_has (by omega) (c_X6_has F a1 x1 s2 c6) rfl rfl (Nat.le_of_ble_eq_true rfl) wm_X6_139 dX6_comeTried_12 ?_
    refine jn1_E (fun (s8 : sw_St) => sw_V p l e 5 s m args below meth c g (sw_A g s.heap.size) (sw_QV below g args s  st1) 3 26 [(0, .ref (g.1 63)), (1, .int a1), (2, .int x1)] [] s8) h (fun s8 h => ?_) (fun k9 J10 h => ?_)
    · obtain ⟨x11, ex11⟩ : ∃ y : Int32, y = x1 + 1 := ⟨_, rfl⟩
      have h := nm_E h ex11
      refine sw_iinc X 2 x11 [(2, .int x11), (0, .ref (g.1 63)), (1, .int a1)] rfl (by rw [ex11]; rfl) (by decide) rfl dX6_comeTried_26 ?_
      refine sw_goto X 2 (by decide) dX6_comeTried_29 ?_
      refine sw_sub [1, 2, 0] rfl ?_
      exact ih4 _ _ h
    · refine sw_if_eq X 26 (by decide) dX6_comeTried_15 (fun q12 => ?_) (fun q12 => ?_)
      · have h := ite_T h q12
        exact J10 _ h
      · have h := ite_F h q12
        refine sw_aload_n X 0 rfl rfl dX6_comeTried_18 ?_
        refine sw_sipush X (v := 828) (by decide) dX6_comeTried_19 ?_
        refine sw_iload_n X 2 rfl rfl dX6_comeTried_22 ?_
        obtain ⟨u15, s14, c13, h⟩ := bd_E h
        refine sw_callVV X (o := 63) (As := (fun g => [.int 828, .int x1])) sw_cl6 (show sw_kd 63 = 6 from rfl) ws_X6_comesIn (by omega) (c_X6_comesIn F 828 x1 s2 c13) rfl rfl (Nat.le_of_ble_eq_true rfl) wm_X6_152 dX6_comeTried_23 ?_
        exact J10 _ h
