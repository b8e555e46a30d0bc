theorem dX6_digest_0 : decode cX6_digest 0 = .ok (.ldc2_w 288, 3) := by decide +kernel
theorem dX6_digest_3 : decode cX6_digest 3 = .ok (.lstore_n 1, 1) := by decide +kernel
theorem dX6_digest_4 : decode cX6_digest 4 = .ok (.iconst 0, 1) := by decide +kernel
theorem dX6_digest_5 : decode cX6_digest 5 = .ok (.istore_n 3, 1) := by decide +kernel
theorem dX6_digest_6 : decode cX6_digest 6 = .ok (.iload_n 3, 1) := by decide +kernel
theorem dX6_digest_7 : decode cX6_digest 7 = .ok (.bipush 11, 2) := by decide +kernel
theorem dX6_digest_9 : decode cX6_digest 9 = .ok (.if_icmp .ge 22, 3) := by decide +kernel
theorem dX6_digest_12 : decode cX6_digest 12 = .ok (.ldc2_w 290, 3) := by decide +kernel
theorem dX6_digest_15 : decode cX6_digest 15 = .ok (.lload_n 1, 1) := by decide +kernel
theorem dX6_digest_16 : decode cX6_digest 16 = .ok (.lmul, 1) := by decide +kernel
theorem dX6_digest_17 : decode cX6_digest 17 = .ok (.aload_n 0, 1) := by decide +kernel
theorem dX6_digest_18 : decode cX6_digest 18 = .ok (.iload_n 3, 1) := by decide +kernel
theorem dX6_digest_19 : decode cX6_digest 19 = .ok (.invokevirtual 285, 3) := by decide +kernel
theorem dX6_digest_22 : decode cX6_digest 22 = .ok (.i2l, 1) := by decide +kernel
theorem dX6_digest_23 : decode cX6_digest 23 = .ok (.ladd, 1) := by decide +kernel
theorem dX6_digest_24 : decode cX6_digest 24 = .ok (.lstore_n 1, 1) := by decide +kernel
theorem dX6_digest_25 : decode cX6_digest 25 = .ok (.iinc 3 1, 3) := by decide +kernel
theorem dX6_digest_28 : decode cX6_digest 28 = .ok (.goto (-22), 3) := by decide +kernel
theorem dX6_digest_31 : decode cX6_digest 31 = .ok (.iconst 0, 1) := by decide +kernel
theorem dX6_digest_32 : decode cX6_digest 32 = .ok (.istore_n 3, 1) := by decide +kernel
theorem dX6_digest_33 : decode cX6_digest 33 = .ok (.iload_n 3, 1) := by decide +kernel
theorem dX6_digest_34 : decode cX6_digest 34 = .ok (.bipush 6, 2) := by decide +kernel
theorem dX6_digest_36 : decode cX6_digest 36 = .ok (.aload_n 0, 1) := by decide +kernel
theorem dX6_digest_37 : decode cX6_digest 37 = .ok (.getfield 136, 3) := by decide +kernel
theorem dX6_digest_40 : decode cX6_digest 40 = .ok (.imul, 1) := by decide +kernel
theorem dX6_digest_41 : decode cX6_digest 41 = .ok (.if_icmp .ge 29, 3) := by decide +kernel
theorem dX6_digest_44 : decode cX6_digest 44 = .ok (.ldc2_w 290, 3) := by decide +kernel
theorem dX6_digest_47 : decode cX6_digest 47 = .ok (.lload_n 1, 1) := by decide +kernel
theorem dX6_digest_48 : decode cX6_digest 48 = .ok (.lmul, 1) := by decide +kernel
theorem dX6_digest_49 : decode cX6_digest 49 = .ok (.aload_n 0, 1) := by decide +kernel
theorem dX6_digest_50 : decode cX6_digest 50 = .ok (.iload_n 3, 1) := by decide +kernel
theorem dX6_digest_51 : decode cX6_digest 51 = .ok (.bipush 6, 2) := by decide +kernel
theorem dX6_digest_53 : decode cX6_digest 53 = .ok (.idiv, 1) := by decide +kernel
theorem dX6_digest_54 : decode cX6_digest 54 = .ok (.iload_n 3, 1) := by decide +kernel
theorem dX6_digest_55 : decode cX6_digest 55 = .ok (.bipush 6, 2) := by decide +kernel
theorem dX6_digest_57 : decode cX6_digest 57 = .ok (.irem, 1) := by decide +kernel
theorem dX6_digest_58 : decode cX6_digest 58 = .ok (.invokevirtual 158, 3) := by decide +kernel
theorem dX6_digest_61 : decode cX6_digest 61 = .ok (.i2l, 1) := by decide +kernel
theorem dX6_digest_62 : decode cX6_digest 62 = .ok (.ladd, 1) := by decide +kernel
theorem dX6_digest_63 : decode cX6_digest 63 = .ok (.lstore_n 1, 1) := by decide +kernel
theorem dX6_digest_64 : decode cX6_digest 64 = .ok (.iinc 3 1, 3) := by decide +kernel
theorem dX6_digest_67 : decode cX6_digest 67 = .ok (.goto (-34), 3) := by decide +kernel
theorem dX6_digest_70 : decode cX6_digest 70 = .ok (.iconst 1, 1) := by decide +kernel
theorem dX6_digest_71 : decode cX6_digest 71 = .ok (.istore_n 3, 1) := by decide +kernel
theorem dX6_digest_72 : decode cX6_digest 72 = .ok (.iload_n 3, 1) := by decide +kernel
theorem dX6_digest_73 : decode cX6_digest 73 = .ok (.iconst 4, 1) := by decide +kernel
theorem dX6_digest_74 : decode cX6_digest 74 = .ok (.if_icmp .ge 29, 3) := by decide +kernel
theorem dX6_digest_77 : decode cX6_digest 77 = .ok (.ldc2_w 290, 3) := by decide +kernel
theorem dX6_digest_80 : decode cX6_digest 80 = .ok (.lload_n 1, 1) := by decide +kernel
theorem dX6_digest_81 : decode cX6_digest 81 = .ok (.lmul, 1) := by decide +kernel
theorem dX6_digest_82 : decode cX6_digest 82 = .ok (.aload_n 0, 1) := by decide +kernel
theorem dX6_digest_83 : decode cX6_digest 83 = .ok (.getfield 7, 3) := by decide +kernel
theorem dX6_digest_86 : decode cX6_digest 86 = .ok (.sipush 207, 3) := by decide +kernel
theorem dX6_digest_89 : decode cX6_digest 89 = .ok (.iload_n 3, 1) := by decide +kernel
theorem dX6_digest_90 : decode cX6_digest 90 = .ok (.imul, 1) := by decide +kernel
theorem dX6_digest_91 : decode cX6_digest 91 = .ok (.iconst 0, 1) := by decide +kernel
theorem dX6_digest_92 : decode cX6_digest 92 = .ok (.iadd, 1) := by decide +kernel
theorem dX6_digest_93 : decode cX6_digest 93 = .ok (.iaload, 1) := by decide +kernel
theorem dX6_digest_94 : decode cX6_digest 94 = .ok (.i2l, 1) := by decide +kernel
theorem dX6_digest_95 : decode cX6_digest 95 = .ok (.ladd, 1) := by decide +kernel
theorem dX6_digest_96 : decode cX6_digest 96 = .ok (.lstore_n 1, 1) := by decide +kernel
theorem dX6_digest_97 : decode cX6_digest 97 = .ok (.iinc 3 1, 3) := by decide +kernel
theorem dX6_digest_100 : decode cX6_digest 100 = .ok (.goto (-28), 3) := by decide +kernel
theorem dX6_digest_103 : decode cX6_digest 103 = .ok (.iconst 0, 1) := by decide +kernel
theorem dX6_digest_104 : decode cX6_digest 104 = .ok (.istore_n 3, 1) := by decide +kernel
theorem dX6_digest_105 : decode cX6_digest 105 = .ok (.iload_n 3, 1) := by decide +kernel
theorem dX6_digest_106 : decode cX6_digest 106 = .ok (.bipush 6, 2) := by decide +kernel
theorem dX6_digest_108 : decode cX6_digest 108 = .ok (.if_icmp .ge 63, 3) := by decide +kernel
theorem dX6_digest_111 : decode cX6_digest 111 = .ok (.ldc2_w 290, 3) := by decide +kernel
theorem dX6_digest_114 : decode cX6_digest 114 = .ok (.lload_n 1, 1) := by decide +kernel
theorem dX6_digest_115 : decode cX6_digest 115 = .ok (.lmul, 1) := by decide +kernel
theorem dX6_digest_116 : decode cX6_digest 116 = .ok (.aload_n 0, 1) := by decide +kernel
theorem dX6_digest_117 : decode cX6_digest 117 = .ok (.getfield 22, 3) := by decide +kernel
theorem dX6_digest_120 : decode cX6_digest 120 = .ok (.iload_n 3, 1) := by decide +kernel
theorem dX6_digest_121 : decode cX6_digest 121 = .ok (.iaload, 1) := by decide +kernel
theorem dX6_digest_122 : decode cX6_digest 122 = .ok (.i2l, 1) := by decide +kernel
theorem dX6_digest_123 : decode cX6_digest 123 = .ok (.ladd, 1) := by decide +kernel
theorem dX6_digest_124 : decode cX6_digest 124 = .ok (.lstore_n 1, 1) := by decide +kernel
theorem dX6_digest_125 : decode cX6_digest 125 = .ok (.iconst 0, 1) := by decide +kernel
theorem dX6_digest_126 : decode cX6_digest 126 = .ok (.istore 4, 2) := by decide +kernel
theorem dX6_digest_128 : decode cX6_digest 128 = .ok (.iload 4, 2) := by decide +kernel
theorem dX6_digest_130 : decode cX6_digest 130 = .ok (.aload_n 0, 1) := by decide +kernel
theorem dX6_digest_131 : decode cX6_digest 131 = .ok (.getfield 22, 3) := by decide +kernel
theorem dX6_digest_134 : decode cX6_digest 134 = .ok (.iload_n 3, 1) := by decide +kernel
theorem dX6_digest_135 : decode cX6_digest 135 = .ok (.iaload, 1) := by decide +kernel
theorem dX6_digest_136 : decode cX6_digest 136 = .ok (.if_icmp .ge 29, 3) := by decide +kernel
theorem dX6_digest_139 : decode cX6_digest 139 = .ok (.ldc2_w 290, 3) := by decide +kernel
theorem dX6_digest_142 : decode cX6_digest 142 = .ok (.lload_n 1, 1) := by decide +kernel
theorem dX6_digest_143 : decode cX6_digest 143 = .ok (.lmul, 1) := by decide +kernel
theorem dX6_digest_144 : decode cX6_digest 144 = .ok (.aload_n 0, 1) := by decide +kernel
theorem dX6_digest_145 : decode cX6_digest 145 = .ok (.getfield 25, 3) := by decide +kernel
theorem dX6_digest_148 : decode cX6_digest 148 = .ok (.bipush 40, 2) := by decide +kernel
theorem dX6_digest_150 : decode cX6_digest 150 = .ok (.iload_n 3, 1) := by decide +kernel
theorem dX6_digest_151 : decode cX6_digest 151 = .ok (.imul, 1) := by decide +kernel
theorem dX6_digest_152 : decode cX6_digest 152 = .ok (.iload 4, 2) := by decide +kernel
theorem dX6_digest_154 : decode cX6_digest 154 = .ok (.iadd, 1) := by decide +kernel
theorem dX6_digest_155 : decode cX6_digest 155 = .ok (.iaload, 1) := by decide +kernel
theorem dX6_digest_156 : decode cX6_digest 156 = .ok (.i2l, 1) := by decide +kernel
theorem dX6_digest_157 : decode cX6_digest 157 = .ok (.ladd, 1) := by decide +kernel
theorem dX6_digest_158 : decode cX6_digest 158 = .ok (.lstore_n 1, 1) := by decide +kernel
theorem dX6_digest_159 : decode cX6_digest 159 = .ok (.iinc 4 1, 3) := by decide +kernel
theorem dX6_digest_162 : decode cX6_digest 162 = .ok (.goto (-34), 3) := by decide +kernel
theorem dX6_digest_165 : decode cX6_digest 165 = .ok (.iinc 3 1, 3) := by decide +kernel
theorem dX6_digest_168 : decode cX6_digest 168 = .ok (.goto (-63), 3) := by decide +kernel
theorem dX6_digest_171 : decode cX6_digest 171 = .ok (.iconst 0, 1) := by decide +kernel
theorem dX6_digest_172 : decode cX6_digest 172 = .ok (.istore_n 3, 1) := by decide +kernel
theorem dX6_digest_173 : decode cX6_digest 173 = .ok (.iload_n 3, 1) := by decide +kernel
theorem dX6_digest_174 : decode cX6_digest 174 = .ok (.iconst 4, 1) := by decide +kernel
theorem dX6_digest_175 : decode cX6_digest 175 = .ok (.if_icmp .ge 63, 3) := by decide +kernel
theorem dX6_digest_178 : decode cX6_digest 178 = .ok (.ldc2_w 290, 3) := by decide +kernel
theorem dX6_digest_181 : decode cX6_digest 181 = .ok (.lload_n 1, 1) := by decide +kernel
theorem dX6_digest_182 : decode cX6_digest 182 = .ok (.lmul, 1) := by decide +kernel
theorem dX6_digest_183 : decode cX6_digest 183 = .ok (.aload_n 0, 1) := by decide +kernel
theorem dX6_digest_184 : decode cX6_digest 184 = .ok (.getfield 28, 3) := by decide +kernel
theorem dX6_digest_187 : decode cX6_digest 187 = .ok (.iload_n 3, 1) := by decide +kernel
theorem dX6_digest_188 : decode cX6_digest 188 = .ok (.iaload, 1) := by decide +kernel
theorem dX6_digest_189 : decode cX6_digest 189 = .ok (.i2l, 1) := by decide +kernel
theorem dX6_digest_190 : decode cX6_digest 190 = .ok (.ladd, 1) := by decide +kernel
theorem dX6_digest_191 : decode cX6_digest 191 = .ok (.lstore_n 1, 1) := by decide +kernel
theorem dX6_digest_192 : decode cX6_digest 192 = .ok (.iconst 0, 1) := by decide +kernel
theorem dX6_digest_193 : decode cX6_digest 193 = .ok (.istore 4, 2) := by decide +kernel
theorem dX6_digest_195 : decode cX6_digest 195 = .ok (.iload 4, 2) := by decide +kernel
theorem dX6_digest_197 : decode cX6_digest 197 = .ok (.aload_n 0, 1) := by decide +kernel
theorem dX6_digest_198 : decode cX6_digest 198 = .ok (.getfield 28, 3) := by decide +kernel
theorem dX6_digest_201 : decode cX6_digest 201 = .ok (.iload_n 3, 1) := by decide +kernel
theorem dX6_digest_202 : decode cX6_digest 202 = .ok (.iaload, 1) := by decide +kernel
theorem dX6_digest_203 : decode cX6_digest 203 = .ok (.if_icmp .ge 29, 3) := by decide +kernel
theorem dX6_digest_206 : decode cX6_digest 206 = .ok (.ldc2_w 290, 3) := by decide +kernel
theorem dX6_digest_209 : decode cX6_digest 209 = .ok (.lload_n 1, 1) := by decide +kernel
theorem dX6_digest_210 : decode cX6_digest 210 = .ok (.lmul, 1) := by decide +kernel
theorem dX6_digest_211 : decode cX6_digest 211 = .ok (.aload_n 0, 1) := by decide +kernel
theorem dX6_digest_212 : decode cX6_digest 212 = .ok (.getfield 31, 3) := by decide +kernel
theorem dX6_digest_215 : decode cX6_digest 215 = .ok (.bipush 60, 2) := by decide +kernel
theorem dX6_digest_217 : decode cX6_digest 217 = .ok (.iload_n 3, 1) := by decide +kernel
theorem dX6_digest_218 : decode cX6_digest 218 = .ok (.imul, 1) := by decide +kernel
theorem dX6_digest_219 : decode cX6_digest 219 = .ok (.iload 4, 2) := by decide +kernel
theorem dX6_digest_221 : decode cX6_digest 221 = .ok (.iadd, 1) := by decide +kernel
theorem dX6_digest_222 : decode cX6_digest 222 = .ok (.iaload, 1) := by decide +kernel
theorem dX6_digest_223 : decode cX6_digest 223 = .ok (.i2l, 1) := by decide +kernel
theorem dX6_digest_224 : decode cX6_digest 224 = .ok (.ladd, 1) := by decide +kernel
theorem dX6_digest_225 : decode cX6_digest 225 = .ok (.lstore_n 1, 1) := by decide +kernel
theorem dX6_digest_226 : decode cX6_digest 226 = .ok (.iinc 4 1, 3) := by decide +kernel
theorem dX6_digest_229 : decode cX6_digest 229 = .ok (.goto (-34), 3) := by decide +kernel
theorem dX6_digest_232 : decode cX6_digest 232 = .ok (.iinc 3 1, 3) := by decide +kernel
theorem dX6_digest_235 : decode cX6_digest 235 = .ok (.goto (-62), 3) := by decide +kernel
theorem dX6_digest_238 : decode cX6_digest 238 = .ok (.lload_n 1, 1) := by decide +kernel
theorem dX6_digest_239 : decode cX6_digest 239 = .ok (.lreturn, 1) := by decide +kernel
def j_X6_digest (F : Nat) (st : sw_St) : Option Int64 :=
lz2 (fun f3 (x1 : Int64) (x2 : Int32) =>
 (if 11 ≤ x2 then (
  lz2 (fun f8 (x6 : Int64) (x7 : Int32) =>
   (if (6 * (st.1 63 1)) ≤ x7 then (
    lz2 (fun f13 (x11 : Int64) (x12 : Int32) =>
     (if 4 ≤ x12 then (
      lz2 (fun f18 (x16 : Int64) (x17 : Int32) =>
       (if 6 ≤ x17 then (
        lz2 (fun f23 (x21 : Int64) (x22 : Int32) =>
         (if 4 ≤ x22 then (
          some (x21 : Int64))
         else (
          bnd x22 4 (
          nm ((31 * x21) + (((st.1 70 (x22 : Int32).toNatClampNeg) : Int32).toInt64)) (fun (x27 : Int64) =>
          lz2 (fun f30 (x28 : Int64) (x29 : Int32) =>
           bnd x22 4 (
           (if (st.1 70 (x22 : Int32).toNatClampNeg) ≤ x29 then (
            nm (x22 + 1) (fun (x34 : Int32) =>
            f23 x28 x34))
           else (
            bnd ((60 * x22) + x29) 240 (
            nm ((31 * x28) + (((st.1 71 (((60 * x22) + x29) : Int32).toNatClampNeg) : Int32).toInt64)) (fun (x36 : Int64) =>
            nm (x29 + 1) (fun (x37 : Int32) =>
            f30 x36 x37))))))) F x27 0))))) F x16 0)
       else (
        bnd x17 6 (
        nm ((31 * x16) + (((st.1 68 (x17 : Int32).toNatClampNeg) : Int32).toInt64)) (fun (x39 : Int64) =>
        lz2 (fun f42 (x40 : Int64) (x41 : Int32) =>
         bnd x17 6 (
         (if (st.1 68 (x17 : Int32).toNatClampNeg) ≤ x41 then (
          nm (x17 + 1) (fun (x46 : Int32) =>
          f18 x40 x46))
         else (
          bnd ((40 * x17) + x41) 240 (
          nm ((31 * x40) + (((st.1 69 (((40 * x17) + x41) : Int32).toNatClampNeg) : Int32).toInt64)) (fun (x48 : Int64) =>
          nm (x41 + 1) (fun (x49 : Int32) =>
          f42 x48 x49))))))) F x39 0))))) F x11 0)
     else (
      bnd ((207 * x12) + 0) 835 (
      nm ((31 * x11) + (((st.1 64 (((207 * x12) + 0) : Int32).toNatClampNeg) : Int32).toInt64)) (fun (x51 : Int64) =>
      nm (x12 + 1) (fun (x52 : Int32) =>
      f13 x51 x52)))))) F x6 1)
   else (
    bo (j_X6_toldOf F (x7 / 6) (x7 - x7 / 6 * 6) st) (fun (r54 : Int32) =>
    nm ((31 * x6) + ((r54 : Int32).toInt64)) (fun (x55 : Int64) =>
    nm (x7 + 1) (fun (x56 : Int32) =>
    f8 x55 x56)))))) F x1 0)
 else (
  bo (j_X6_countOf F x2 st) (fun (r58 : Int32) =>
  nm ((31 * x1) + ((r58 : Int32).toInt64)) (fun (x59 : Int64) =>
  nm (x2 + 1) (fun (x60 : Int32) =>
  f3 x59 x60)))))) F 17 0
set_option maxHeartbeats 4000000 in
set_option maxRecDepth 100000 in
theorem c_X6_digest (F : Nat) (st : sw_St) {r : Int64} (h : j_X6_digest F  st = some r) : sw_CL yX6_digest (.code yX6_digest cX6_digest 5 (some .long)) 5 (fun g => [.ref (g.1 63)]) st r st := by
  refine sw_entL RX6 (fun g => [(0, .ref (g.1 63))]) (by decide) rfl (fun _ => Nat.le_of_ble_eq_true rfl) (fun _ => rfl) ?_
  intro p l e s m args below meth c g X hr hlk
  unfold j_X6_digest at h
  refine sw_ldc2 X (v := 17) wl_X6_288 dX6_digest_0 ?_
  refine sw_lstore_n X [(1, .long 17), (0, .ref (g.1 63))] rfl (by decide) rfl dX6_digest_3 ?_
  refine sw_iconst X (v := 0) (by decide) dX6_digest_4 ?_
  refine sw_istore_n X [(3, .int 0), (1, .long 17), (0, .ref (g.1 63))] rfl (by decide) rfl dX6_digest_5 ?_
  refine sw_sub [2, 1, 0] rfl ?_
  refine lz2_E (fun (x1 : Int64) (x2 : Int32) => sw_V p l e 5 s m args below meth c g (sw_A g s.heap.size) (sw_QL below g args s r st) 5 6 [(0, .ref (g.1 63)), (1, .long x1), (3, .int x2)] [] st) h (fun f3 ih4 x1 x2 h => ?_)
  refine sw_iload_n X 2 rfl rfl dX6_digest_6 ?_
  refine sw_bipush X (v := 11) (by decide) dX6_digest_7 ?_
  refine sw_icmp_ge X 31 (by decide) dX6_digest_9 (fun q5 => ?_) (fun q5 => ?_)
  · have h := ite_T h q5
    refine sw_iconst X (v := 0) (by decide) dX6_digest_31 ?_
    refine sw_istore_n X [(3, .int 0), (0, .ref (g.1 63)), (1, .long x1)] rfl (by decide) rfl dX6_digest_32 ?_
    refine sw_sub [1, 2, 0] rfl ?_
    refine lz2_E (fun (x6 : Int64) (x7 : Int32) => sw_V p l e 5 s m args below meth c g (sw_A g s.heap.size) (sw_QL below g args s r st) 5 33 [(0, .ref (g.1 63)), (1, .long x6), (3, .int x7)] [] st) h (fun f8 ih9 x6 x7 h => ?_)
    refine sw_iload_n X 2 rfl rfl dX6_digest_33 ?_
    refine sw_bipush X (v := 6) (by decide) dX6_digest_34 ?_
    refine sw_aload_n X 0 rfl rfl dX6_digest_36 ?_
    refine sw_getI X sw_cl6 (show sw_kd 63 = 6 from rfl) (k := 1) rfl (by decide) wf_X6_136 dX6_digest_37 ?_
    refine sw_imul X dX6_digest_40 ?_
    refine sw_icmp_ge X 70 (by decide) dX6_digest_41 (fun q10 => ?_) (fun q10 => ?_)
    · have h := ite_T h q10
      refine sw_iconst X (v := 1) (by decide) dX6_digest_70 ?_
      refine sw_istore_n X [(3, .int 1), (0, .ref (g.1 63)), (1, .long x6)] rfl (by decide) rfl dX6_digest_71 ?_
      refine sw_sub [1, 2, 0] rfl ?_
      refine lz2_E (fun (x11 : Int64) (x12 : Int32) => sw_V p l e 5 s m args below meth c g (sw_A g s.heap.size) (sw_QL below g args s r st) 5 72 [(0, .ref (g.1 63)), (1, .long x11), (3, .int x12)] [] st) h (fun f13 ih14 x11 x12 h => ?_)
      refine sw_iload_n X 2 rfl rfl dX6_digest_72 ?_
      refine sw_iconst X (v := 4) (by decide) dX6_digest_73 ?_
      refine sw_icmp_ge X 103 (by decide) dX6_digest_74 (fun q15 => ?_) (fun q15 => ?_)
      · have h := ite_T h q15
        refine sw_iconst X (v := 0) (by decide) dX6_digest_103 ?_
        refine sw_istore_n X [(3, .int 0), (0, .ref (g.1 63)), (1, .long x11)] rfl (by decide) rfl dX6_digest_104 ?_
        refine sw_sub [1, 2, 0] rfl ?_
        refine lz2_E (fun (x16 : Int64) (x17 : Int32) => sw_V p l e 5 s m args below meth c g (sw_A g s.heap.size) (sw_QL below g args s r st) 5 105 [(0, .ref (g.1 63)), (1, .long x16), (3, .int x17)] [] st) h (fun f18 ih19 x16 x17 h => ?_)
        refine sw_iload_n X 2 rfl rfl dX6_digest_105 ?_
        refine sw_bipush X (v := 6) (by decide) dX6_digest_106 ?_
        refine sw_icmp_ge X 171 (by decide) dX6_digest_108 (fun q20 => ?_) (fun q20 => ?_)
        · have h := ite_T h q20
          refine sw_iconst X (v := 0) (by decide) dX6_digest_171 ?_
          refine sw_istore_n X [(3, .int 0), (0, .ref (g.1 63)), (1, .long x16)] rfl (by decide) rfl dX6_digest_172 ?_
          refine sw_sub [1, 2, 0] rfl ?_
          refine lz2_E (fun (x21 : Int64) (x22 : Int32) => sw_V p l e 5 s m args below meth c g (sw_A g s.heap.size) (sw_QL below g args s r st) 5 173 [(0, .ref (g.1 63)), (1, .long x21), (3, .int x22)] [] st) h (fun f23 ih24 x21 x22 h => ?_)
          refine sw_iload_n X 2 rfl rfl dX6_digest_173 ?_
          refine sw_iconst X (v := 4) (by decide) dX6_digest_174 ?_
          refine sw_icmp_ge X 238 (by decide) dX6_digest_175 (fun q25 => ?_) (fun q25 => ?_)
          · have h := ite_T h q25
            refine sw_lload_n X 1 rfl rfl dX6_digest_238 ?_
            exact sw_lret X hr hlk dX6_digest_239 (by cases h; rfl)
          · have h := ite_F h q25
            refine sw_ldc2 X (v := 31) wl_X6_290 dX6_digest_178 ?_
            refine sw_lload_n X 1 rfl rfl dX6_digest_181 ?_
            refine sw_lmul X dX6_digest_182 ?_
            refine sw_aload_n X 0 rfl rfl dX6_digest_183 ?_
            refine sw_getR X sw_cl6 (show sw_kd 63 = 6 from rfl) (k := 7) rfl (by decide) (o1 := 70) rfl wf_X6_28 dX6_digest_184 ?_
            refine sw_iload_n X 2 rfl rfl dX6_digest_187 ?_
            obtain ⟨q26, h⟩ := bnd_E h
            refine sw_iald X (show sw_kd 70 = 8 from rfl) (n := 4) rfl q26 dX6_digest_188 ?_
            refine sw_i2l X dX6_digest_189 ?_
            refine sw_ladd X dX6_digest_190 ?_
            refine sw_topl (fun x27 ex27 => ?_)
            have h := nm_E h ex27
            refine sw_lstore_n X [(1, .long x27), (0, .ref (g.1 63)), (3, .int x22)] rfl (by decide) rfl dX6_digest_191 ?_
            refine sw_iconst X (v := 0) (by decide) dX6_digest_192 ?_
            refine sw_istore X [(4, .int 0), (1, .long x27), (0, .ref (g.1 63)), (3, .int x22)] (by decide) rfl dX6_digest_193 ?_
            refine sw_sub [2, 1, 3, 0] rfl ?_
            refine lz2_E (fun (x28 : Int64) (x29 : Int32) => sw_V p l e 5 s m args below meth c g (sw_A g s.heap.size) (sw_QL below g args s r st) 5 195 [(0, .ref (g.1 63)), (1, .long x28), (3, .int x22), (4, .int x29)] [] st) h (fun f30 ih31 x28 x29 h => ?_)
            refine sw_iload X 3 rfl dX6_digest_195 ?_
            refine sw_aload_n X 0 rfl rfl dX6_digest_197 ?_
            refine sw_getR X sw_cl6 (show sw_kd 63 = 6 from rfl) (k := 7) rfl (by decide) (o1 := 70) rfl wf_X6_28 dX6_digest_198 ?_
            refine sw_iload_n X 2 rfl rfl dX6_digest_201 ?_
            obtain ⟨q32, h⟩ := bnd_E h
            refine sw_iald X (show sw_kd 70 = 8 from rfl) (n := 4) rfl q32 dX6_digest_202 ?_
            refine sw_icmp_ge X 232 (by decide) dX6_digest_203 (fun q33 => ?_) (fun q33 => ?_)
            · have h := ite_T h q33
              obtain ⟨x34, ex34⟩ : ∃ y : Int32, y = x22 + 1 := ⟨_, rfl⟩
              have h := nm_E h ex34
              refine sw_iinc X 2 x34 [(3, .int x34), (0, .ref (g.1 63)), (1, .long x28), (4, .int x29)] rfl (by rw [ex34]; rfl) (by decide) rfl dX6_digest_232 ?_
              refine sw_goto X 173 (by decide) dX6_digest_235 ?_
              refine sw_sub [1, 2, 0] rfl ?_
              exact ih24 _ _ h
            · have h := ite_F h q33
              refine sw_ldc2 X (v := 31) wl_X6_290 dX6_digest_206 ?_
              refine sw_lload_n X 1 rfl rfl dX6_digest_209 ?_
              refine sw_lmul X dX6_digest_210 ?_
              refine sw_aload_n X 0 rfl rfl dX6_digest_211 ?_
              refine sw_getR X sw_cl6 (show sw_kd 63 = 6 from rfl) (k := 8) rfl (by decide) (o1 := 71) rfl wf_X6_31 dX6_digest_212 ?_
              refine sw_bipush X (v := 60) (by decide) dX6_digest_215 ?_
              refine sw_iload_n X 2 rfl rfl dX6_digest_217 ?_
              refine sw_imul X dX6_digest_218 ?_
              refine sw_iload X 3 rfl dX6_digest_219 ?_
              refine sw_iadd X dX6_digest_221 ?_
              obtain ⟨q35, h⟩ := bnd_E h
              refine sw_iald X (show sw_kd 71 = 8 from rfl) (n := 240) rfl q35 dX6_digest_222 ?_
              refine sw_i2l X dX6_digest_223 ?_
              refine sw_ladd X dX6_digest_224 ?_
              refine sw_topl (fun x36 ex36 => ?_)
              have h := nm_E h ex36
              refine sw_lstore_n X [(1, .long x36), (0, .ref (g.1 63)), (3, .int x22), (4, .int x29)] rfl (by decide) rfl dX6_digest_225 ?_
              obtain ⟨x37, ex37⟩ : ∃ y : Int32, y = x29 + 1 := ⟨_, rfl⟩
              have h := nm_E h ex37
              refine sw_iinc X 3 x37 [(4, .int x37), (1, .long x36), (0, .ref (g.1 63)), (3, .int x22)] rfl (by rw [ex37]; rfl) (by decide) rfl dX6_digest_226 ?_
              refine sw_goto X 195 (by decide) dX6_digest_229 ?_
              refine sw_sub [2, 1, 3, 0] rfl ?_
              exact ih31 _ _ h
        · have h := ite_F h q20
          refine sw_ldc2 X (v := 31) wl_X6_290 dX6_digest_111 ?_
          refine sw_lload_n X 1 rfl rfl dX6_digest_114 ?_
          refine sw_lmul X dX6_digest_115 ?_
          refine sw_aload_n X 0 rfl rfl dX6_digest_116 ?_
          refine sw_getR X sw_cl6 (show sw_kd 63 = 6 from rfl) (k := 5) rfl (by decide) (o1 := 68) rfl wf_X6_22 dX6_digest_117 ?_
          refine sw_iload_n X 2 rfl rfl dX6_digest_120 ?_
          obtain ⟨q38, h⟩ := bnd_E h
          refine sw_iald X (show sw_kd 68 = 8 from rfl) (n := 6) rfl q38 dX6_digest_121 ?_
          refine sw_i2l X dX6_digest_122 ?_
          refine sw_ladd X dX6_digest_123 ?_
          refine sw_topl (fun x39 ex39 => ?_)
          have h := nm_E h ex39
          refine sw_lstore_n X [(1, .long x39), (0, .ref (g.1 63)), (3, .int x17)] rfl (by decide) rfl dX6_digest_124 ?_
          refine sw_iconst X (v := 0) (by decide) dX6_digest_125 ?_
          refine sw_istore X [(4, .int 0), (1, .long x39), (0, .ref (g.1 63)), (3, .int x17)] (by decide) rfl dX6_digest_126 ?_
          refine sw_sub [2, 1, 3, 0] rfl ?_
          refine lz2_E (fun (x40 : Int64) (x41 : Int32) => sw_V p l e 5 s m args below meth c g (sw_A g s.heap.size) (sw_QL below g args s r st) 5 128 [(0, .ref (g.1 63)), (1, .long x40), (3, .int x17), (4, .int x41)] [] st) h (fun f42 ih43 x40 x41 h => ?_)
          refine sw_iload X 3 rfl dX6_digest_128 ?_
          refine sw_aload_n X 0 rfl rfl dX6_digest_130 ?_
          refine sw_getR X sw_cl6 (show sw_kd 63 = 6 from rfl) (k := 5) rfl (by decide) (o1 := 68) rfl wf_X6_22 dX6_digest_131 ?_
          refine sw_iload_n X 2 rfl rfl dX6_digest_134 ?_
          obtain ⟨q44, h⟩ := bnd_E h
          refine sw_iald X (show sw_kd 68 = 8 from rfl) (n := 6) rfl q44 dX6_digest_135 ?_
          refine sw_icmp_ge X 165 (by decide) dX6_digest_136 (fun q45 => ?_) (fun q45 => ?_)
          · have h := ite_T h q45
            obtain ⟨x46, ex46⟩ : ∃ y : Int32, y = x17 + 1 := ⟨_, rfl⟩
            have h := nm_E h ex46
            refine sw_iinc X 2 x46 [(3, .int x46), (0, .ref (g.1 63)), (1, .long x40), (4, .int x41)] rfl (by rw [ex46]; rfl) (by decide) rfl dX6_digest_165 ?_
            refine sw_goto X 105 (by decide) dX6_digest_168 ?_
            refine sw_sub [1, 2, 0] rfl ?_
            exact ih19 _ _ h
          · have h := ite_F h q45
            refine sw_ldc2 X (v := 31) wl_X6_290 dX6_digest_139 ?_
            refine sw_lload_n X 1 rfl rfl dX6_digest_142 ?_
            refine sw_lmul X dX6_digest_143 ?_
            refine sw_aload_n X 0 rfl rfl dX6_digest_144 ?_
            refine sw_getR X sw_cl6 (show sw_kd 63 = 6 from rfl) (k := 6) rfl (by decide) (o1 := 69) rfl wf_X6_25 dX6_digest_145 ?_
            refine sw_bipush X (v := 40) (by decide) dX6_digest_148 ?_
            refine sw_iload_n X 2 rfl rfl dX6_digest_150 ?_
            refine sw_imul X dX6_digest_151 ?_
            refine sw_iload X 3 rfl dX6_digest_152 ?_
            refine sw_iadd X dX6_digest_154 ?_
            obtain ⟨q47, h⟩ := bnd_E h
            refine sw_iald X (show sw_kd 69 = 8 from rfl) (n := 240) rfl q47 dX6_digest_155 ?_
            refine sw_i2l X dX6_digest_156 ?_
            refine sw_ladd X dX6_digest_157 ?_
            refine sw_topl (fun x48 ex48 => ?_)
            have h := nm_E h ex48
            refine sw_lstore_n X [(1, .long x48), (0, .ref (g.1 63)), (3, .int x17), (4, .int x41)] rfl (by decide) rfl dX6_digest_158 ?_
            obtain ⟨x49, ex49⟩ : ∃ y : Int32, y = x41 + 1 := ⟨_, rfl⟩
            have h := nm_E h ex49
            refine sw_iinc X 3 x49 [(4, .int x49), (1, .long x48), (0, .ref (g.1 63)), (3, .int x17)] rfl (by rw [ex49]; rfl) (by decide) rfl dX6_digest_159 ?_
            refine sw_goto X 128 (by decide) dX6_digest_162 ?_
            refine sw_sub [2, 1, 3, 0] rfl ?_
            exact ih43 _ _ h
      · have h := ite_F h q15
        refine sw_ldc2 X (v := 31) wl_X6_290 dX6_digest_77 ?_
        refine sw_lload_n X 1 rfl rfl dX6_digest_80 ?_
        refine sw_lmul X dX6_digest_81 ?_
        refine sw_aload_n X 0 rfl rfl dX6_digest_82 ?_
        refine sw_getR X sw_cl6 (show sw_kd 63 = 6 from rfl) (k := 0) rfl (by decide) (o1 := 64) rfl wf_X6_7 dX6_digest_83 ?_
        refine sw_sipush X (v := 207) (by decide) dX6_digest_86 ?_
        refine sw_iload_n X 2 rfl rfl dX6_digest_89 ?_
        refine sw_imul X dX6_digest_90 ?_
        refine sw_iconst X (v := 0) (by decide) dX6_digest_91 ?_
        refine sw_iadd X dX6_digest_92 ?_
        obtain ⟨q50, h⟩ := bnd_E h
        refine sw_iald X (show sw_kd 64 = 8 from rfl) (n := 835) rfl q50 dX6_digest_93 ?_
        refine sw_i2l X dX6_digest_94 ?_
        refine sw_ladd X dX6_digest_95 ?_
        refine sw_topl (fun x51 ex51 => ?_)
        have h := nm_E h ex51
        refine sw_lstore_n X [(1, .long x51), (0, .ref (g.1 63)), (3, .int x12)] rfl (by decide) rfl dX6_digest_96 ?_
        obtain ⟨x52, ex52⟩ : ∃ y : Int32, y = x12 + 1 := ⟨_, rfl⟩
        have h := nm_E h ex52
        refine sw_iinc X 2 x52 [(3, .int x52), (1, .long x51), (0, .ref (g.1 63))] rfl (by rw [ex52]; rfl) (by decide) rfl dX6_digest_97 ?_
        refine sw_goto X 72 (by decide) dX6_digest_100 ?_
        refine sw_sub [2, 1, 0] rfl ?_
        exact ih14 _ _ h
    · have h := ite_F h q10
      refine sw_ldc2 X (v := 31) wl_X6_290 dX6_digest_44 ?_
      refine sw_lload_n X 1 rfl rfl dX6_digest_47 ?_
      refine sw_lmul X dX6_digest_48 ?_
      refine sw_aload_n X 0 rfl rfl dX6_digest_49 ?_
      refine sw_iload_n X 2 rfl rfl dX6_digest_50 ?_
      refine sw_bipush X (v := 6) (by decide) dX6_digest_51 ?_
      refine sw_idiv X (by decide) dX6_digest_53 ?_
      refine sw_iload_n X 2 rfl rfl dX6_digest_54 ?_
      refine sw_bipush X (v := 6) (by decide) dX6_digest_55 ?_
      refine sw_irem X (by decide) dX6_digest_57 ?_
      obtain ⟨r54, c53, h⟩ := bo_E h
      refine sw_callVI X (o := 63) (As := (fun g => [.int (x7 / 6), .int (x7 - x7 / 6 * 6)])) sw_cl6 (show sw_kd 63 = 6 from rfl) ws_X6_toldOf (by omega) (c_X6_toldOf F (x7 / 6) (x7 - x7 / 6 * 6) st c53) rfl rfl (Nat.le_of_ble_eq_true rfl) wm_X6_158 dX6_digest_58 ?_
      refine sw_i2l X dX6_digest_61 ?_
      refine sw_ladd X dX6_digest_62 ?_
      refine sw_topl (fun x55 ex55 => ?_)
      have h := nm_E h ex55
      refine sw_lstore_n X [(1, .long x55), (0, .ref (g.1 63)), (3, .int x7)] rfl (by decide) rfl dX6_digest_63 ?_
      obtain ⟨x56, ex56⟩ : ∃ y : Int32, y = x7 + 1 := ⟨_, rfl⟩
      have h := nm_E h ex56
      refine sw_iinc X 2 x56 [(3, .int x56), (1, .long x55), (0, .ref (g.1 63))] rfl (by rw [ex56]; rfl) (by decide) rfl dX6_digest_64 ?_
      refine sw_goto X 33 (by decide) dX6_digest_67 ?_
      refine sw_sub [2, 1, 0] rfl ?_
      exact ih9 _ _ h
  · have h := ite_F h q5
    refine sw_ldc2 X (v := 31) wl_X6_290 dX6_digest_12 ?_
    refine sw_lload_n X 1 rfl rfl dX6_digest_15 ?_
    refine sw_lmul X dX6_digest_16 ?_
    refine sw_aload_n X 0 rfl rfl dX6_digest_17 ?_
    refine sw_iload_n X 2 rfl rfl dX6_digest_18 ?_
    obtain ⟨r58, c57, h⟩ := bo_E h
    refine sw_callVI X (o := 63) (As := (fun g => [.int x2])) sw_cl6 (show sw_kd 63 = 6 from rfl) ws_X6_countOf (by omega) (c_X6_countOf F x2 st c57) rfl rfl (Nat.le_of_ble_eq_true rfl) wm_X6_285 dX6_digest_19 ?_
    refine sw_i2l X dX6_digest_22 ?_
    refine sw_ladd X dX6_digest_23 ?_
    refine sw_topl (fun x59 ex59 => ?_)
    have h := nm_E h ex59
    refine sw_lstore_n X [(1, .long x59), (0, .ref (g.1 63)), (3, .int x2)] rfl (by decide) rfl dX6_digest_24 ?_
    obtain ⟨x60, ex60⟩ : ∃ y : Int32, y = x2 + 1 := ⟨_, rfl⟩
    have h := nm_E h ex60
    refine sw_iinc X 2 x60 [(3, .int x60), (1, .long x59), (0, .ref (g.1 63))] rfl (by rw [ex60]; rfl) (by decide) rfl dX6_digest_25 ?_
    refine sw_goto X 6 (by decide) dX6_digest_28 ?_
    refine sw_sub [2, 1, 0] rfl ?_
    exact ih4 _ _ h
