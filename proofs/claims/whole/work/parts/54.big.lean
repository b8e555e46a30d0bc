theorem dX6_init_0 : decode cX6_init 0 = .ok (.aload_n 0, 1) := by decide +kernel
theorem dX6_init_1 : decode cX6_init 1 = .ok (.invokespecial 1, 3) := by decide +kernel
theorem dX6_init_4 : decode cX6_init 4 = .ok (.aload_n 0, 1) := by decide +kernel
theorem dX6_init_5 : decode cX6_init 5 = .ok (.sipush 835, 3) := by decide +kernel
theorem dX6_init_8 : decode cX6_init 8 = .ok (.newarray .int, 2) := by decide +kernel
theorem dX6_init_10 : decode cX6_init 10 = .ok (.putfield 7, 3) := by decide +kernel
theorem dX6_init_13 : decode cX6_init 13 = .ok (.aload_n 0, 1) := by decide +kernel
theorem dX6_init_14 : decode cX6_init 14 = .ok (.bipush 6, 2) := by decide +kernel
theorem dX6_init_16 : decode cX6_init 16 = .ok (.newarray .int, 2) := by decide +kernel
theorem dX6_init_18 : decode cX6_init 18 = .ok (.putfield 13, 3) := by decide +kernel
theorem dX6_init_21 : decode cX6_init 21 = .ok (.aload_n 0, 1) := by decide +kernel
theorem dX6_init_22 : decode cX6_init 22 = .ok (.bipush 6, 2) := by decide +kernel
theorem dX6_init_24 : decode cX6_init 24 = .ok (.newarray .int, 2) := by decide +kernel
theorem dX6_init_26 : decode cX6_init 26 = .ok (.putfield 16, 3) := by decide +kernel
theorem dX6_init_29 : decode cX6_init 29 = .ok (.aload_n 0, 1) := by decide +kernel
theorem dX6_init_30 : decode cX6_init 30 = .ok (.bipush 6, 2) := by decide +kernel
theorem dX6_init_32 : decode cX6_init 32 = .ok (.newarray .int, 2) := by decide +kernel
theorem dX6_init_34 : decode cX6_init 34 = .ok (.putfield 19, 3) := by decide +kernel
theorem dX6_init_37 : decode cX6_init 37 = .ok (.aload_n 0, 1) := by decide +kernel
theorem dX6_init_38 : decode cX6_init 38 = .ok (.bipush 6, 2) := by decide +kernel
theorem dX6_init_40 : decode cX6_init 40 = .ok (.newarray .int, 2) := by decide +kernel
theorem dX6_init_42 : decode cX6_init 42 = .ok (.dup, 1) := by decide +kernel
theorem dX6_init_43 : decode cX6_init 43 = .ok (.iconst 0, 1) := by decide +kernel
theorem dX6_init_44 : decode cX6_init 44 = .ok (.iconst (-1), 1) := by decide +kernel
theorem dX6_init_45 : decode cX6_init 45 = .ok (.iastore, 1) := by decide +kernel
theorem dX6_init_46 : decode cX6_init 46 = .ok (.dup, 1) := by decide +kernel
theorem dX6_init_47 : decode cX6_init 47 = .ok (.iconst 1, 1) := by decide +kernel
theorem dX6_init_48 : decode cX6_init 48 = .ok (.iconst (-1), 1) := by decide +kernel
theorem dX6_init_49 : decode cX6_init 49 = .ok (.iastore, 1) := by decide +kernel
theorem dX6_init_50 : decode cX6_init 50 = .ok (.dup, 1) := by decide +kernel
theorem dX6_init_51 : decode cX6_init 51 = .ok (.iconst 2, 1) := by decide +kernel
theorem dX6_init_52 : decode cX6_init 52 = .ok (.iconst (-1), 1) := by decide +kernel
theorem dX6_init_53 : decode cX6_init 53 = .ok (.iastore, 1) := by decide +kernel
theorem dX6_init_54 : decode cX6_init 54 = .ok (.dup, 1) := by decide +kernel
theorem dX6_init_55 : decode cX6_init 55 = .ok (.iconst 3, 1) := by decide +kernel
theorem dX6_init_56 : decode cX6_init 56 = .ok (.iconst (-1), 1) := by decide +kernel
theorem dX6_init_57 : decode cX6_init 57 = .ok (.iastore, 1) := by decide +kernel
theorem dX6_init_58 : decode cX6_init 58 = .ok (.dup, 1) := by decide +kernel
theorem dX6_init_59 : decode cX6_init 59 = .ok (.iconst 4, 1) := by decide +kernel
theorem dX6_init_60 : decode cX6_init 60 = .ok (.iconst (-1), 1) := by decide +kernel
theorem dX6_init_61 : decode cX6_init 61 = .ok (.iastore, 1) := by decide +kernel
theorem dX6_init_62 : decode cX6_init 62 = .ok (.dup, 1) := by decide +kernel
theorem dX6_init_63 : decode cX6_init 63 = .ok (.iconst 5, 1) := by decide +kernel
theorem dX6_init_64 : decode cX6_init 64 = .ok (.iconst (-1), 1) := by decide +kernel
theorem dX6_init_65 : decode cX6_init 65 = .ok (.iastore, 1) := by decide +kernel
theorem dX6_init_66 : decode cX6_init 66 = .ok (.putfield 22, 3) := by decide +kernel
theorem dX6_init_69 : decode cX6_init 69 = .ok (.aload_n 0, 1) := by decide +kernel
theorem dX6_init_70 : decode cX6_init 70 = .ok (.sipush 240, 3) := by decide +kernel
theorem dX6_init_73 : decode cX6_init 73 = .ok (.newarray .int, 2) := by decide +kernel
theorem dX6_init_75 : decode cX6_init 75 = .ok (.putfield 25, 3) := by decide +kernel
theorem dX6_init_78 : decode cX6_init 78 = .ok (.aload_n 0, 1) := by decide +kernel
theorem dX6_init_79 : decode cX6_init 79 = .ok (.iconst 4, 1) := by decide +kernel
theorem dX6_init_80 : decode cX6_init 80 = .ok (.newarray .int, 2) := by decide +kernel
theorem dX6_init_82 : decode cX6_init 82 = .ok (.dup, 1) := by decide +kernel
theorem dX6_init_83 : decode cX6_init 83 = .ok (.iconst 0, 1) := by decide +kernel
theorem dX6_init_84 : decode cX6_init 84 = .ok (.iconst (-1), 1) := by decide +kernel
theorem dX6_init_85 : decode cX6_init 85 = .ok (.iastore, 1) := by decide +kernel
theorem dX6_init_86 : decode cX6_init 86 = .ok (.dup, 1) := by decide +kernel
theorem dX6_init_87 : decode cX6_init 87 = .ok (.iconst 1, 1) := by decide +kernel
theorem dX6_init_88 : decode cX6_init 88 = .ok (.iconst (-1), 1) := by decide +kernel
theorem dX6_init_89 : decode cX6_init 89 = .ok (.iastore, 1) := by decide +kernel
theorem dX6_init_90 : decode cX6_init 90 = .ok (.dup, 1) := by decide +kernel
theorem dX6_init_91 : decode cX6_init 91 = .ok (.iconst 2, 1) := by decide +kernel
theorem dX6_init_92 : decode cX6_init 92 = .ok (.iconst (-1), 1) := by decide +kernel
theorem dX6_init_93 : decode cX6_init 93 = .ok (.iastore, 1) := by decide +kernel
theorem dX6_init_94 : decode cX6_init 94 = .ok (.dup, 1) := by decide +kernel
theorem dX6_init_95 : decode cX6_init 95 = .ok (.iconst 3, 1) := by decide +kernel
theorem dX6_init_96 : decode cX6_init 96 = .ok (.iconst (-1), 1) := by decide +kernel
theorem dX6_init_97 : decode cX6_init 97 = .ok (.iastore, 1) := by decide +kernel
theorem dX6_init_98 : decode cX6_init 98 = .ok (.putfield 28, 3) := by decide +kernel
theorem dX6_init_101 : decode cX6_init 101 = .ok (.aload_n 0, 1) := by decide +kernel
theorem dX6_init_102 : decode cX6_init 102 = .ok (.sipush 240, 3) := by decide +kernel
theorem dX6_init_105 : decode cX6_init 105 = .ok (.newarray .int, 2) := by decide +kernel
theorem dX6_init_107 : decode cX6_init 107 = .ok (.putfield 31, 3) := by decide +kernel
theorem dX6_init_110 : decode cX6_init 110 = .ok (.aload_n 0, 1) := by decide +kernel
theorem dX6_init_111 : decode cX6_init 111 = .ok (.lconst 1, 1) := by decide +kernel
theorem dX6_init_112 : decode cX6_init 112 = .ok (.putfield 34, 3) := by decide +kernel
theorem dX6_init_115 : decode cX6_init 115 = .ok (.aload_n 0, 1) := by decide +kernel
theorem dX6_init_116 : decode cX6_init 116 = .ok (.bipush 6, 2) := by decide +kernel
theorem dX6_init_118 : decode cX6_init 118 = .ok (.newarray .int, 2) := by decide +kernel
theorem dX6_init_120 : decode cX6_init 120 = .ok (.putfield 38, 3) := by decide +kernel
theorem dX6_init_123 : decode cX6_init 123 = .ok (.aload_n 0, 1) := by decide +kernel
theorem dX6_init_124 : decode cX6_init 124 = .ok (.bipush 24, 2) := by decide +kernel
theorem dX6_init_126 : decode cX6_init 126 = .ok (.newarray .int, 2) := by decide +kernel
theorem dX6_init_128 : decode cX6_init 128 = .ok (.putfield 41, 3) := by decide +kernel
theorem dX6_init_131 : decode cX6_init 131 = .ok (.aload_n 0, 1) := by decide +kernel
theorem dX6_init_132 : decode cX6_init 132 = .ok (.bipush 6, 2) := by decide +kernel
theorem dX6_init_134 : decode cX6_init 134 = .ok (.newarray .int, 2) := by decide +kernel
theorem dX6_init_136 : decode cX6_init 136 = .ok (.putfield 44, 3) := by decide +kernel
theorem dX6_init_139 : decode cX6_init 139 = .ok (.aload_n 0, 1) := by decide +kernel
theorem dX6_init_140 : decode cX6_init 140 = .ok (.bipush 64, 2) := by decide +kernel
theorem dX6_init_142 : decode cX6_init 142 = .ok (.newarray .boolean, 2) := by decide +kernel
theorem dX6_init_144 : decode cX6_init 144 = .ok (.putfield 47, 3) := by decide +kernel
theorem dX6_init_147 : decode cX6_init 147 = .ok (.aload_n 0, 1) := by decide +kernel
theorem dX6_init_148 : decode cX6_init 148 = .ok (.sipush 2401, 3) := by decide +kernel
theorem dX6_init_151 : decode cX6_init 151 = .ok (.newarray .int, 2) := by decide +kernel
theorem dX6_init_153 : decode cX6_init 153 = .ok (.putfield 51, 3) := by decide +kernel
theorem dX6_init_156 : decode cX6_init 156 = .ok (.iconst 1, 1) := by decide +kernel
theorem dX6_init_157 : decode cX6_init 157 = .ok (.istore_n 1, 1) := by decide +kernel
theorem dX6_init_158 : decode cX6_init 158 = .ok (.iload_n 1, 1) := by decide +kernel
theorem dX6_init_159 : decode cX6_init 159 = .ok (.iconst 4, 1) := by decide +kernel
theorem dX6_init_160 : decode cX6_init 160 = .ok (.if_icmp .ge 22, 3) := by decide +kernel
theorem dX6_init_163 : decode cX6_init 163 = .ok (.aload_n 0, 1) := by decide +kernel
theorem dX6_init_164 : decode cX6_init 164 = .ok (.getfield 7, 3) := by decide +kernel
theorem dX6_init_167 : decode cX6_init 167 = .ok (.sipush 207, 3) := by decide +kernel
theorem dX6_init_170 : decode cX6_init 170 = .ok (.iload_n 1, 1) := by decide +kernel
theorem dX6_init_171 : decode cX6_init 171 = .ok (.imul, 1) := by decide +kernel
theorem dX6_init_172 : decode cX6_init 172 = .ok (.iconst 0, 1) := by decide +kernel
theorem dX6_init_173 : decode cX6_init 173 = .ok (.iadd, 1) := by decide +kernel
theorem dX6_init_174 : decode cX6_init 174 = .ok (.iconst (-1), 1) := by decide +kernel
theorem dX6_init_175 : decode cX6_init 175 = .ok (.iastore, 1) := by decide +kernel
theorem dX6_init_176 : decode cX6_init 176 = .ok (.iinc 1 1, 3) := by decide +kernel
theorem dX6_init_179 : decode cX6_init 179 = .ok (.goto (-21), 3) := by decide +kernel
theorem dX6_init_182 : decode cX6_init 182 = .ok (.return_, 1) := by decide +kernel
set_option maxHeartbeats 16000000 in
set_option maxRecDepth 100000 in
theorem c_X6_init (h0 : Nat) : su_C yX6_init (.code yX6_init cX6_init 2 none) 1 13 3844 [.ref h0] (fun cy => [(h0, .inr (6, [.null, .int 0, .null, .null, .null, .null, .null, .null, .null, .int 0, .long 0, .long 0, .int 0, .null, .int 0, .int 0, .int 0, .int 0, .int 0, .null, .int 0, .int 0, .null, .int 0, .int 0, .int 0, .int 0, .null, .null]))]) (fun cy u => su_Wm cy (va_up u 63 h0)) := by
  refine su_ent RX6 [(0, .ref h0)] (by decide) rfl (Nat.le_of_ble_eq_true rfl) rfl ?_
  intro p l e s m args below meth c D cy X hr hlk hin
  refine su_aload_n X 0 rfl rfl dX6_init_0 ?_
  refine su_oinit X wm_X6_1 wo_i wo_c (Nat.le_of_ble_eq_true rfl) (Nat.le_of_ble_eq_true rfl) dX6_init_1 ?_
  refine su_aload_n X 0 rfl rfl dX6_init_4 ?_
  refine su_sipush X (v := 835) (by decide) dX6_init_5 ?_
  refine su_newaI X (N' := 835) (fun q1 => [(h0, .inr (6, [.null, .int 0, .null, .null, .null, .null, .null, .null, .null, .int 0, .long 0, .long 0, .int 0, .null, .int 0, .int 0, .int 0, .int 0, .int 0, .null, .int 0, .int 0, .null, .int 0, .int 0, .int 0, .int 0, .null, .null])), (q1, .inl (cy 8, 835, .inl (fun _ => 0)))]) wA_I (by decide) (by decide) (by decide) (Nat.le_of_ble_eq_true rfl) (Nat.le_of_ble_eq_true rfl) (fun _ => rfl) dX6_init_8 (fun q1 => ?_)
  refine su_putF X hin 0 (k := 0) [(h0, .inr (6, [.ref q1, .int 0, .null, .null, .null, .null, .null, .null, .null, .int 0, .long 0, .long 0, .int 0, .null, .int 0, .int 0, .int 0, .int 0, .int 0, .null, .int 0, .int 0, .null, .int 0, .int 0, .int 0, .int 0, .null, .null])), (q1, .inl (cy 8, 835, .inl (fun _ => 0)))] sw_cl6 rfl (by decide) rfl rfl rfl rfl rfl (Nat.le_of_ble_eq_true rfl) rfl wf_X6_7 dX6_init_10 ?_
  refine su_aload_n X 0 rfl rfl dX6_init_13 ?_
  refine su_bipush X (v := 6) (by decide) dX6_init_14 ?_
  refine su_newaI X (N' := 6) (fun q2 => [(h0, .inr (6, [.ref q1, .int 0, .null, .null, .null, .null, .null, .null, .null, .int 0, .long 0, .long 0, .int 0, .null, .int 0, .int 0, .int 0, .int 0, .int 0, .null, .int 0, .int 0, .null, .int 0, .int 0, .int 0, .int 0, .null, .null])), (q1, .inl (cy 8, 835, .inl (fun _ => 0))), (q2, .inl (cy 8, 6, .inl (fun _ => 0)))]) wA_I (by decide) (by decide) (by decide) (Nat.le_of_ble_eq_true rfl) (Nat.le_of_ble_eq_true rfl) (fun _ => rfl) dX6_init_16 (fun q2 => ?_)
  refine su_putF X hin 0 (k := 2) [(h0, .inr (6, [.ref q1, .int 0, .ref q2, .null, .null, .null, .null, .null, .null, .int 0, .long 0, .long 0, .int 0, .null, .int 0, .int 0, .int 0, .int 0, .int 0, .null, .int 0, .int 0, .null, .int 0, .int 0, .int 0, .int 0, .null, .null])), (q1, .inl (cy 8, 835, .inl (fun _ => 0))), (q2, .inl (cy 8, 6, .inl (fun _ => 0)))] sw_cl6 rfl (by decide) rfl rfl rfl rfl rfl (Nat.le_of_ble_eq_true rfl) rfl wf_X6_13 dX6_init_18 ?_
  refine su_aload_n X 0 rfl rfl dX6_init_21 ?_
  refine su_bipush X (v := 6) (by decide) dX6_init_22 ?_
  refine su_newaI X (N' := 6) (fun q3 => [(h0, .inr (6, [.ref q1, .int 0, .ref q2, .null, .null, .null, .null, .null, .null, .int 0, .long 0, .long 0, .int 0, .null, .int 0, .int 0, .int 0, .int 0, .int 0, .null, .int 0, .int 0, .null, .int 0, .int 0, .int 0, .int 0, .null, .null])), (q1, .inl (cy 8, 835, .inl (fun _ => 0))), (q2, .inl (cy 8, 6, .inl (fun _ => 0))), (q3, .inl (cy 8, 6, .inl (fun _ => 0)))]) wA_I (by decide) (by decide) (by decide) (Nat.le_of_ble_eq_true rfl) (Nat.le_of_ble_eq_true rfl) (fun _ => rfl) dX6_init_24 (fun q3 => ?_)
  refine su_putF X hin 0 (k := 3) [(h0, .inr (6, [.ref q1, .int 0, .ref q2, .ref q3, .null, .null, .null, .null, .null, .int 0, .long 0, .long 0, .int 0, .null, .int 0, .int 0, .int 0, .int 0, .int 0, .null, .int 0, .int 0, .null, .int 0, .int 0, .int 0, .int 0, .null, .null])), (q1, .inl (cy 8, 835, .inl (fun _ => 0))), (q2, .inl (cy 8, 6, .inl (fun _ => 0))), (q3, .inl (cy 8, 6, .inl (fun _ => 0)))] sw_cl6 rfl (by decide) rfl rfl rfl rfl rfl (Nat.le_of_ble_eq_true rfl) rfl wf_X6_16 dX6_init_26 ?_
  refine su_aload_n X 0 rfl rfl dX6_init_29 ?_
  refine su_bipush X (v := 6) (by decide) dX6_init_30 ?_
  refine su_newaI X (N' := 6) (fun q4 => [(h0, .inr (6, [.ref q1, .int 0, .ref q2, .ref q3, .null, .null, .null, .null, .null, .int 0, .long 0, .long 0, .int 0, .null, .int 0, .int 0, .int 0, .int 0, .int 0, .null, .int 0, .int 0, .null, .int 0, .int 0, .int 0, .int 0, .null, .null])), (q1, .inl (cy 8, 835, .inl (fun _ => 0))), (q2, .inl (cy 8, 6, .inl (fun _ => 0))), (q3, .inl (cy 8, 6, .inl (fun _ => 0))), (q4, .inl (cy 8, 6, .inl (fun _ => 0)))]) wA_I (by decide) (by decide) (by decide) (Nat.le_of_ble_eq_true rfl) (Nat.le_of_ble_eq_true rfl) (fun _ => rfl) dX6_init_32 (fun q4 => ?_)
  refine su_putF X hin 0 (k := 4) [(h0, .inr (6, [.ref q1, .int 0, .ref q2, .ref q3, .ref q4, .null, .null, .null, .null, .int 0, .long 0, .long 0, .int 0, .null, .int 0, .int 0, .int 0, .int 0, .int 0, .null, .int 0, .int 0, .null, .int 0, .int 0, .int 0, .int 0, .null, .null])), (q1, .inl (cy 8, 835, .inl (fun _ => 0))), (q2, .inl (cy 8, 6, .inl (fun _ => 0))), (q3, .inl (cy 8, 6, .inl (fun _ => 0))), (q4, .inl (cy 8, 6, .inl (fun _ => 0)))] sw_cl6 rfl (by decide) rfl rfl rfl rfl rfl (Nat.le_of_ble_eq_true rfl) rfl wf_X6_19 dX6_init_34 ?_
  refine su_aload_n X 0 rfl rfl dX6_init_37 ?_
  refine su_bipush X (v := 6) (by decide) dX6_init_38 ?_
  refine su_newaI X (N' := 6) (fun q5 => [(h0, .inr (6, [.ref q1, .int 0, .ref q2, .ref q3, .ref q4, .null, .null, .null, .null, .int 0, .long 0, .long 0, .int 0, .null, .int 0, .int 0, .int 0, .int 0, .int 0, .null, .int 0, .int 0, .null, .int 0, .int 0, .int 0, .int 0, .null, .null])), (q1, .inl (cy 8, 835, .inl (fun _ => 0))), (q2, .inl (cy 8, 6, .inl (fun _ => 0))), (q3, .inl (cy 8, 6, .inl (fun _ => 0))), (q4, .inl (cy 8, 6, .inl (fun _ => 0))), (q5, .inl (cy 8, 6, .inl (fun _ => 0)))]) wA_I (by decide) (by decide) (by decide) (Nat.le_of_ble_eq_true rfl) (Nat.le_of_ble_eq_true rfl) (fun _ => rfl) dX6_init_40 (fun q5 => ?_)
  refine su_dup X rfl dX6_init_42 ?_
  refine su_iconst X (v := 0) (by decide) dX6_init_43 ?_
  refine su_iconst X (v := (-1)) (by decide) dX6_init_44 ?_
  refine su_iast X 5 (i := 0) [(h0, .inr (6, [.ref q1, .int 0, .ref q2, .ref q3, .ref q4, .null, .null, .null, .null, .int 0, .long 0, .long 0, .int 0, .null, .int 0, .int 0, .int 0, .int 0, .int 0, .null, .int 0, .int 0, .null, .int 0, .int 0, .int 0, .int 0, .null, .null])), (q1, .inl (cy 8, 835, .inl (fun _ => 0))), (q2, .inl (cy 8, 6, .inl (fun _ => 0))), (q3, .inl (cy 8, 6, .inl (fun _ => 0))), (q4, .inl (cy 8, 6, .inl (fun _ => 0))), (q5, .inl (cy 8, 6, .inl (upd (fun _ => 0) 0 (-1))))] rfl (by unfold vp_in; decide) rfl dX6_init_45 ?_
  refine su_dup X rfl dX6_init_46 ?_
  refine su_iconst X (v := 1) (by decide) dX6_init_47 ?_
  refine su_iconst X (v := (-1)) (by decide) dX6_init_48 ?_
  refine su_iast X 5 (i := 1) [(h0, .inr (6, [.ref q1, .int 0, .ref q2, .ref q3, .ref q4, .null, .null, .null, .null, .int 0, .long 0, .long 0, .int 0, .null, .int 0, .int 0, .int 0, .int 0, .int 0, .null, .int 0, .int 0, .null, .int 0, .int 0, .int 0, .int 0, .null, .null])), (q1, .inl (cy 8, 835, .inl (fun _ => 0))), (q2, .inl (cy 8, 6, .inl (fun _ => 0))), (q3, .inl (cy 8, 6, .inl (fun _ => 0))), (q4, .inl (cy 8, 6, .inl (fun _ => 0))), (q5, .inl (cy 8, 6, .inl (upd (upd (fun _ => 0) 0 (-1)) 1 (-1))))] rfl (by unfold vp_in; decide) rfl dX6_init_49 ?_
  refine su_dup X rfl dX6_init_50 ?_
  refine su_iconst X (v := 2) (by decide) dX6_init_51 ?_
  refine su_iconst X (v := (-1)) (by decide) dX6_init_52 ?_
  refine su_iast X 5 (i := 2) [(h0, .inr (6, [.ref q1, .int 0, .ref q2, .ref q3, .ref q4, .null, .null, .null, .null, .int 0, .long 0, .long 0, .int 0, .null, .int 0, .int 0, .int 0, .int 0, .int 0, .null, .int 0, .int 0, .null, .int 0, .int 0, .int 0, .int 0, .null, .null])), (q1, .inl (cy 8, 835, .inl (fun _ => 0))), (q2, .inl (cy 8, 6, .inl (fun _ => 0))), (q3, .inl (cy 8, 6, .inl (fun _ => 0))), (q4, .inl (cy 8, 6, .inl (fun _ => 0))), (q5, .inl (cy 8, 6, .inl (upd (upd (upd (fun _ => 0) 0 (-1)) 1 (-1)) 2 (-1))))] rfl (by unfold vp_in; decide) rfl dX6_init_53 ?_
  refine su_dup X rfl dX6_init_54 ?_
  refine su_iconst X (v := 3) (by decide) dX6_init_55 ?_
  refine su_iconst X (v := (-1)) (by decide) dX6_init_56 ?_
  refine su_iast X 5 (i := 3) [(h0, .inr (6, [.ref q1, .int 0, .ref q2, .ref q3, .ref q4, .null, .null, .null, .null, .int 0, .long 0, .long 0, .int 0, .null, .int 0, .int 0, .int 0, .int 0, .int 0, .null, .int 0, .int 0, .null, .int 0, .int 0, .int 0, .int 0, .null, .null])), (q1, .inl (cy 8, 835, .inl (fun _ => 0))), (q2, .inl (cy 8, 6, .inl (fun _ => 0))), (q3, .inl (cy 8, 6, .inl (fun _ => 0))), (q4, .inl (cy 8, 6, .inl (fun _ => 0))), (q5, .inl (cy 8, 6, .inl (upd (upd (upd (upd (fun _ => 0) 0 (-1)) 1 (-1)) 2 (-1)) 3 (-1))))] rfl (by unfold vp_in; decide) rfl dX6_init_57 ?_
  refine su_dup X rfl dX6_init_58 ?_
  refine su_iconst X (v := 4) (by decide) dX6_init_59 ?_
  refine su_iconst X (v := (-1)) (by decide) dX6_init_60 ?_
  refine su_iast X 5 (i := 4) [(h0, .inr (6, [.ref q1, .int 0, .ref q2, .ref q3, .ref q4, .null, .null, .null, .null, .int 0, .long 0, .long 0, .int 0, .null, .int 0, .int 0, .int 0, .int 0, .int 0, .null, .int 0, .int 0, .null, .int 0, .int 0, .int 0, .int 0, .null, .null])), (q1, .inl (cy 8, 835, .inl (fun _ => 0))), (q2, .inl (cy 8, 6, .inl (fun _ => 0))), (q3, .inl (cy 8, 6, .inl (fun _ => 0))), (q4, .inl (cy 8, 6, .inl (fun _ => 0))), (q5, .inl (cy 8, 6, .inl (upd (upd (upd (upd (upd (fun _ => 0) 0 (-1)) 1 (-1)) 2 (-1)) 3 (-1)) 4 (-1))))] rfl (by unfold vp_in; decide) rfl dX6_init_61 ?_
  refine su_dup X rfl dX6_init_62 ?_
  refine su_iconst X (v := 5) (by decide) dX6_init_63 ?_
  refine su_iconst X (v := (-1)) (by decide) dX6_init_64 ?_
  refine su_iast X 5 (i := 5) [(h0, .inr (6, [.ref q1, .int 0, .ref q2, .ref q3, .ref q4, .null, .null, .null, .null, .int 0, .long 0, .long 0, .int 0, .null, .int 0, .int 0, .int 0, .int 0, .int 0, .null, .int 0, .int 0, .null, .int 0, .int 0, .int 0, .int 0, .null, .null])), (q1, .inl (cy 8, 835, .inl (fun _ => 0))), (q2, .inl (cy 8, 6, .inl (fun _ => 0))), (q3, .inl (cy 8, 6, .inl (fun _ => 0))), (q4, .inl (cy 8, 6, .inl (fun _ => 0))), (q5, .inl (cy 8, 6, .inl (upd (upd (upd (upd (upd (upd (fun _ => 0) 0 (-1)) 1 (-1)) 2 (-1)) 3 (-1)) 4 (-1)) 5 (-1))))] rfl (by unfold vp_in; decide) rfl dX6_init_65 ?_
  refine su_putF X hin 0 (k := 5) [(h0, .inr (6, [.ref q1, .int 0, .ref q2, .ref q3, .ref q4, .ref q5, .null, .null, .null, .int 0, .long 0, .long 0, .int 0, .null, .int 0, .int 0, .int 0, .int 0, .int 0, .null, .int 0, .int 0, .null, .int 0, .int 0, .int 0, .int 0, .null, .null])), (q1, .inl (cy 8, 835, .inl (fun _ => 0))), (q2, .inl (cy 8, 6, .inl (fun _ => 0))), (q3, .inl (cy 8, 6, .inl (fun _ => 0))), (q4, .inl (cy 8, 6, .inl (fun _ => 0))), (q5, .inl (cy 8, 6, .inl (upd (upd (upd (upd (upd (upd (fun _ => 0) 0 (-1)) 1 (-1)) 2 (-1)) 3 (-1)) 4 (-1)) 5 (-1))))] sw_cl6 rfl (by decide) rfl rfl rfl rfl rfl (Nat.le_of_ble_eq_true rfl) rfl wf_X6_22 dX6_init_66 ?_
  refine su_aload_n X 0 rfl rfl dX6_init_69 ?_
  refine su_sipush X (v := 240) (by decide) dX6_init_70 ?_
  refine su_newaI X (N' := 240) (fun q6 => [(h0, .inr (6, [.ref q1, .int 0, .ref q2, .ref q3, .ref q4, .ref q5, .null, .null, .null, .int 0, .long 0, .long 0, .int 0, .null, .int 0, .int 0, .int 0, .int 0, .int 0, .null, .int 0, .int 0, .null, .int 0, .int 0, .int 0, .int 0, .null, .null])), (q1, .inl (cy 8, 835, .inl (fun _ => 0))), (q2, .inl (cy 8, 6, .inl (fun _ => 0))), (q3, .inl (cy 8, 6, .inl (fun _ => 0))), (q4, .inl (cy 8, 6, .inl (fun _ => 0))), (q5, .inl (cy 8, 6, .inl (upd (upd (upd (upd (upd (upd (fun _ => 0) 0 (-1)) 1 (-1)) 2 (-1)) 3 (-1)) 4 (-1)) 5 (-1)))), (q6, .inl (cy 8, 240, .inl (fun _ => 0)))]) wA_I (by decide) (by decide) (by decide) (Nat.le_of_ble_eq_true rfl) (Nat.le_of_ble_eq_true rfl) (fun _ => rfl) dX6_init_73 (fun q6 => ?_)
  refine su_putF X hin 0 (k := 6) [(h0, .inr (6, [.ref q1, .int 0, .ref q2, .ref q3, .ref q4, .ref q5, .ref q6, .null, .null, .int 0, .long 0, .long 0, .int 0, .null, .int 0, .int 0, .int 0, .int 0, .int 0, .null, .int 0, .int 0, .null, .int 0, .int 0, .int 0, .int 0, .null, .null])), (q1, .inl (cy 8, 835, .inl (fun _ => 0))), (q2, .inl (cy 8, 6, .inl (fun _ => 0))), (q3, .inl (cy 8, 6, .inl (fun _ => 0))), (q4, .inl (cy 8, 6, .inl (fun _ => 0))), (q5, .inl (cy 8, 6, .inl (upd (upd (upd (upd (upd (upd (fun _ => 0) 0 (-1)) 1 (-1)) 2 (-1)) 3 (-1)) 4 (-1)) 5 (-1)))), (q6, .inl (cy 8, 240, .inl (fun _ => 0)))] sw_cl6 rfl (by decide) rfl rfl rfl rfl rfl (Nat.le_of_ble_eq_true rfl) rfl wf_X6_25 dX6_init_75 ?_
  refine su_aload_n X 0 rfl rfl dX6_init_78 ?_
  refine su_iconst X (v := 4) (by decide) dX6_init_79 ?_
  refine su_newaI X (N' := 4) (fun q7 => [(h0, .inr (6, [.ref q1, .int 0, .ref q2, .ref q3, .ref q4, .ref q5, .ref q6, .null, .null, .int 0, .long 0, .long 0, .int 0, .null, .int 0, .int 0, .int 0, .int 0, .int 0, .null, .int 0, .int 0, .null, .int 0, .int 0, .int 0, .int 0, .null, .null])), (q1, .inl (cy 8, 835, .inl (fun _ => 0))), (q2, .inl (cy 8, 6, .inl (fun _ => 0))), (q3, .inl (cy 8, 6, .inl (fun _ => 0))), (q4, .inl (cy 8, 6, .inl (fun _ => 0))), (q5, .inl (cy 8, 6, .inl (upd (upd (upd (upd (upd (upd (fun _ => 0) 0 (-1)) 1 (-1)) 2 (-1)) 3 (-1)) 4 (-1)) 5 (-1)))), (q6, .inl (cy 8, 240, .inl (fun _ => 0))), (q7, .inl (cy 8, 4, .inl (fun _ => 0)))]) wA_I (by decide) (by decide) (by decide) (Nat.le_of_ble_eq_true rfl) (Nat.le_of_ble_eq_true rfl) (fun _ => rfl) dX6_init_80 (fun q7 => ?_)
  refine su_dup X rfl dX6_init_82 ?_
  refine su_iconst X (v := 0) (by decide) dX6_init_83 ?_
  refine su_iconst X (v := (-1)) (by decide) dX6_init_84 ?_
  refine su_iast X 7 (i := 0) [(h0, .inr (6, [.ref q1, .int 0, .ref q2, .ref q3, .ref q4, .ref q5, .ref q6, .null, .null, .int 0, .long 0, .long 0, .int 0, .null, .int 0, .int 0, .int 0, .int 0, .int 0, .null, .int 0, .int 0, .null, .int 0, .int 0, .int 0, .int 0, .null, .null])), (q1, .inl (cy 8, 835, .inl (fun _ => 0))), (q2, .inl (cy 8, 6, .inl (fun _ => 0))), (q3, .inl (cy 8, 6, .inl (fun _ => 0))), (q4, .inl (cy 8, 6, .inl (fun _ => 0))), (q5, .inl (cy 8, 6, .inl (upd (upd (upd (upd (upd (upd (fun _ => 0) 0 (-1)) 1 (-1)) 2 (-1)) 3 (-1)) 4 (-1)) 5 (-1)))), (q6, .inl (cy 8, 240, .inl (fun _ => 0))), (q7, .inl (cy 8, 4, .inl (upd (fun _ => 0) 0 (-1))))] rfl (by unfold vp_in; decide) rfl dX6_init_85 ?_
  refine su_dup X rfl dX6_init_86 ?_
  refine su_iconst X (v := 1) (by decide) dX6_init_87 ?_
  refine su_iconst X (v := (-1)) (by decide) dX6_init_88 ?_
  refine su_iast X 7 (i := 1) [(h0, .inr (6, [.ref q1, .int 0, .ref q2, .ref q3, .ref q4, .ref q5, .ref q6, .null, .null, .int 0, .long 0, .long 0, .int 0, .null, .int 0, .int 0, .int 0, .int 0, .int 0, .null, .int 0, .int 0, .null, .int 0, .int 0, .int 0, .int 0, .null, .null])), (q1, .inl (cy 8, 835, .inl (fun _ => 0))), (q2, .inl (cy 8, 6, .inl (fun _ => 0))), (q3, .inl (cy 8, 6, .inl (fun _ => 0))), (q4, .inl (cy 8, 6, .inl (fun _ => 0))), (q5, .inl (cy 8, 6, .inl (upd (upd (upd (upd (upd (upd (fun _ => 0) 0 (-1)) 1 (-1)) 2 (-1)) 3 (-1)) 4 (-1)) 5 (-1)))), (q6, .inl (cy 8, 240, .inl (fun _ => 0))), (q7, .inl (cy 8, 4, .inl (upd (upd (fun _ => 0) 0 (-1)) 1 (-1))))] rfl (by unfold vp_in; decide) rfl dX6_init_89 ?_
  refine su_dup X rfl dX6_init_90 ?_
  refine su_iconst X (v := 2) (by decide) dX6_init_91 ?_
  refine su_iconst X (v := (-1)) (by decide) dX6_init_92 ?_
  refine su_iast X 7 (i := 2) [(h0, .inr (6, [.ref q1, .int 0, .ref q2, .ref q3, .ref q4, .ref q5, .ref q6, .null, .null, .int 0, .long 0, .long 0, .int 0, .null, .int 0, .int 0, .int 0, .int 0, .int 0, .null, .int 0, .int 0, .null, .int 0, .int 0, .int 0, .int 0, .null, .null])), (q1, .inl (cy 8, 835, .inl (fun _ => 0))), (q2, .inl (cy 8, 6, .inl (fun _ => 0))), (q3, .inl (cy 8, 6, .inl (fun _ => 0))), (q4, .inl (cy 8, 6, .inl (fun _ => 0))), (q5, .inl (cy 8, 6, .inl (upd (upd (upd (upd (upd (upd (fun _ => 0) 0 (-1)) 1 (-1)) 2 (-1)) 3 (-1)) 4 (-1)) 5 (-1)))), (q6, .inl (cy 8, 240, .inl (fun _ => 0))), (q7, .inl (cy 8, 4, .inl (upd (upd (upd (fun _ => 0) 0 (-1)) 1 (-1)) 2 (-1))))] rfl (by unfold vp_in; decide) rfl dX6_init_93 ?_
  refine su_dup X rfl dX6_init_94 ?_
  refine su_iconst X (v := 3) (by decide) dX6_init_95 ?_
  refine su_iconst X (v := (-1)) (by decide) dX6_init_96 ?_
  refine su_iast X 7 (i := 3) [(h0, .inr (6, [.ref q1, .int 0, .ref q2, .ref q3, .ref q4, .ref q5, .ref q6, .null, .null, .int 0, .long 0, .long 0, .int 0, .null, .int 0, .int 0, .int 0, .int 0, .int 0, .null, .int 0, .int 0, .null, .int 0, .int 0, .int 0, .int 0, .null, .null])), (q1, .inl (cy 8, 835, .inl (fun _ => 0))), (q2, .inl (cy 8, 6, .inl (fun _ => 0))), (q3, .inl (cy 8, 6, .inl (fun _ => 0))), (q4, .inl (cy 8, 6, .inl (fun _ => 0))), (q5, .inl (cy 8, 6, .inl (upd (upd (upd (upd (upd (upd (fun _ => 0) 0 (-1)) 1 (-1)) 2 (-1)) 3 (-1)) 4 (-1)) 5 (-1)))), (q6, .inl (cy 8, 240, .inl (fun _ => 0))), (q7, .inl (cy 8, 4, .inl (upd (upd (upd (upd (fun _ => 0) 0 (-1)) 1 (-1)) 2 (-1)) 3 (-1))))] rfl (by unfold vp_in; decide) rfl dX6_init_97 ?_
  refine su_putF X hin 0 (k := 7) [(h0, .inr (6, [.ref q1, .int 0, .ref q2, .ref q3, .ref q4, .ref q5, .ref q6, .ref q7, .null, .int 0, .long 0, .long 0, .int 0, .null, .int 0, .int 0, .int 0, .int 0, .int 0, .null, .int 0, .int 0, .null, .int 0, .int 0, .int 0, .int 0, .null, .null])), (q1, .inl (cy 8, 835, .inl (fun _ => 0))), (q2, .inl (cy 8, 6, .inl (fun _ => 0))), (q3, .inl (cy 8, 6, .inl (fun _ => 0))), (q4, .inl (cy 8, 6, .inl (fun _ => 0))), (q5, .inl (cy 8, 6, .inl (upd (upd (upd (upd (upd (upd (fun _ => 0) 0 (-1)) 1 (-1)) 2 (-1)) 3 (-1)) 4 (-1)) 5 (-1)))), (q6, .inl (cy 8, 240, .inl (fun _ => 0))), (q7, .inl (cy 8, 4, .inl (upd (upd (upd (upd (fun _ => 0) 0 (-1)) 1 (-1)) 2 (-1)) 3 (-1))))] sw_cl6 rfl (by decide) rfl rfl rfl rfl rfl (Nat.le_of_ble_eq_true rfl) rfl wf_X6_28 dX6_init_98 ?_
  refine su_aload_n X 0 rfl rfl dX6_init_101 ?_
  refine su_sipush X (v := 240) (by decide) dX6_init_102 ?_
  refine su_newaI X (N' := 240) (fun q8 => [(h0, .inr (6, [.ref q1, .int 0, .ref q2, .ref q3, .ref q4, .ref q5, .ref q6, .ref q7, .null, .int 0, .long 0, .long 0, .int 0, .null, .int 0, .int 0, .int 0, .int 0, .int 0, .null, .int 0, .int 0, .null, .int 0, .int 0, .int 0, .int 0, .null, .null])), (q1, .inl (cy 8, 835, .inl (fun _ => 0))), (q2, .inl (cy 8, 6, .inl (fun _ => 0))), (q3, .inl (cy 8, 6, .inl (fun _ => 0))), (q4, .inl (cy 8, 6, .inl (fun _ => 0))), (q5, .inl (cy 8, 6, .inl (upd (upd (upd (upd (upd (upd (fun _ => 0) 0 (-1)) 1 (-1)) 2 (-1)) 3 (-1)) 4 (-1)) 5 (-1)))), (q6, .inl (cy 8, 240, .inl (fun _ => 0))), (q7, .inl (cy 8, 4, .inl (upd (upd (upd (upd (fun _ => 0) 0 (-1)) 1 (-1)) 2 (-1)) 3 (-1)))), (q8, .inl (cy 8, 240, .inl (fun _ => 0)))]) wA_I (by decide) (by decide) (by decide) (Nat.le_of_ble_eq_true rfl) (Nat.le_of_ble_eq_true rfl) (fun _ => rfl) dX6_init_105 (fun q8 => ?_)
  refine su_putF X hin 0 (k := 8) [(h0, .inr (6, [.ref q1, .int 0, .ref q2, .ref q3, .ref q4, .ref q5, .ref q6, .ref q7, .ref q8, .int 0, .long 0, .long 0, .int 0, .null, .int 0, .int 0, .int 0, .int 0, .int 0, .null, .int 0, .int 0, .null, .int 0, .int 0, .int 0, .int 0, .null, .null])), (q1, .inl (cy 8, 835, .inl (fun _ => 0))), (q2, .inl (cy 8, 6, .inl (fun _ => 0))), (q3, .inl (cy 8, 6, .inl (fun _ => 0))), (q4, .inl (cy 8, 6, .inl (fun _ => 0))), (q5, .inl (cy 8, 6, .inl (upd (upd (upd (upd (upd (upd (fun _ => 0) 0 (-1)) 1 (-1)) 2 (-1)) 3 (-1)) 4 (-1)) 5 (-1)))), (q6, .inl (cy 8, 240, .inl (fun _ => 0))), (q7, .inl (cy 8, 4, .inl (upd (upd (upd (upd (fun _ => 0) 0 (-1)) 1 (-1)) 2 (-1)) 3 (-1)))), (q8, .inl (cy 8, 240, .inl (fun _ => 0)))] sw_cl6 rfl (by decide) rfl rfl rfl rfl rfl (Nat.le_of_ble_eq_true rfl) rfl wf_X6_31 dX6_init_107 ?_
  refine su_aload_n X 0 rfl rfl dX6_init_110 ?_
  refine su_lconst X (v := 1) (by decide) dX6_init_111 ?_
  refine su_put X 0 (k := 11) [(h0, .inr (6, [.ref q1, .int 0, .ref q2, .ref q3, .ref q4, .ref q5, .ref q6, .ref q7, .ref q8, .int 0, .long 0, .long 1, .int 0, .null, .int 0, .int 0, .int 0, .int 0, .int 0, .null, .int 0, .int 0, .null, .int 0, .int 0, .int 0, .int 0, .null, .null])), (q1, .inl (cy 8, 835, .inl (fun _ => 0))), (q2, .inl (cy 8, 6, .inl (fun _ => 0))), (q3, .inl (cy 8, 6, .inl (fun _ => 0))), (q4, .inl (cy 8, 6, .inl (fun _ => 0))), (q5, .inl (cy 8, 6, .inl (upd (upd (upd (upd (upd (upd (fun _ => 0) 0 (-1)) 1 (-1)) 2 (-1)) 3 (-1)) 4 (-1)) 5 (-1)))), (q6, .inl (cy 8, 240, .inl (fun _ => 0))), (q7, .inl (cy 8, 4, .inl (upd (upd (upd (upd (fun _ => 0) 0 (-1)) 1 (-1)) 2 (-1)) 3 (-1)))), (q8, .inl (cy 8, 240, .inl (fun _ => 0)))] sw_cl6 rfl (by decide) rfl rfl rfl rfl (Nat.le_of_ble_eq_true rfl) rfl wf_X6_34 dX6_init_112 ?_
  refine su_aload_n X 0 rfl rfl dX6_init_115 ?_
  refine su_bipush X (v := 6) (by decide) dX6_init_116 ?_
  refine su_newaI X (N' := 6) (fun q9 => [(h0, .inr (6, [.ref q1, .int 0, .ref q2, .ref q3, .ref q4, .ref q5, .ref q6, .ref q7, .ref q8, .int 0, .long 0, .long 1, .int 0, .null, .int 0, .int 0, .int 0, .int 0, .int 0, .null, .int 0, .int 0, .null, .int 0, .int 0, .int 0, .int 0, .null, .null])), (q1, .inl (cy 8, 835, .inl (fun _ => 0))), (q2, .inl (cy 8, 6, .inl (fun _ => 0))), (q3, .inl (cy 8, 6, .inl (fun _ => 0))), (q4, .inl (cy 8, 6, .inl (fun _ => 0))), (q5, .inl (cy 8, 6, .inl (upd (upd (upd (upd (upd (upd (fun _ => 0) 0 (-1)) 1 (-1)) 2 (-1)) 3 (-1)) 4 (-1)) 5 (-1)))), (q6, .inl (cy 8, 240, .inl (fun _ => 0))), (q7, .inl (cy 8, 4, .inl (upd (upd (upd (upd (fun _ => 0) 0 (-1)) 1 (-1)) 2 (-1)) 3 (-1)))), (q8, .inl (cy 8, 240, .inl (fun _ => 0))), (q9, .inl (cy 8, 6, .inl (fun _ => 0)))]) wA_I (by decide) (by decide) (by decide) (Nat.le_of_ble_eq_true rfl) (Nat.le_of_ble_eq_true rfl) (fun _ => rfl) dX6_init_118 (fun q9 => ?_)
  refine su_putF X hin 0 (k := 13) [(h0, .inr (6, [.ref q1, .int 0, .ref q2, .ref q3, .ref q4, .ref q5, .ref q6, .ref q7, .ref q8, .int 0, .long 0, .long 1, .int 0, .ref q9, .int 0, .int 0, .int 0, .int 0, .int 0, .null, .int 0, .int 0, .null, .int 0, .int 0, .int 0, .int 0, .null, .null])), (q1, .inl (cy 8, 835, .inl (fun _ => 0))), (q2, .inl (cy 8, 6, .inl (fun _ => 0))), (q3, .inl (cy 8, 6, .inl (fun _ => 0))), (q4, .inl (cy 8, 6, .inl (fun _ => 0))), (q5, .inl (cy 8, 6, .inl (upd (upd (upd (upd (upd (upd (fun _ => 0) 0 (-1)) 1 (-1)) 2 (-1)) 3 (-1)) 4 (-1)) 5 (-1)))), (q6, .inl (cy 8, 240, .inl (fun _ => 0))), (q7, .inl (cy 8, 4, .inl (upd (upd (upd (upd (fun _ => 0) 0 (-1)) 1 (-1)) 2 (-1)) 3 (-1)))), (q8, .inl (cy 8, 240, .inl (fun _ => 0))), (q9, .inl (cy 8, 6, .inl (fun _ => 0)))] sw_cl6 rfl (by decide) rfl rfl rfl rfl rfl (Nat.le_of_ble_eq_true rfl) rfl wf_X6_38 dX6_init_120 ?_
  refine su_aload_n X 0 rfl rfl dX6_init_123 ?_
  refine su_bipush X (v := 24) (by decide) dX6_init_124 ?_
  refine su_newaI X (N' := 24) (fun q10 => [(h0, .inr (6, [.ref q1, .int 0, .ref q2, .ref q3, .ref q4, .ref q5, .ref q6, .ref q7, .ref q8, .int 0, .long 0, .long 1, .int 0, .ref q9, .int 0, .int 0, .int 0, .int 0, .int 0, .null, .int 0, .int 0, .null, .int 0, .int 0, .int 0, .int 0, .null, .null])), (q1, .inl (cy 8, 835, .inl (fun _ => 0))), (q2, .inl (cy 8, 6, .inl (fun _ => 0))), (q3, .inl (cy 8, 6, .inl (fun _ => 0))), (q4, .inl (cy 8, 6, .inl (fun _ => 0))), (q5, .inl (cy 8, 6, .inl (upd (upd (upd (upd (upd (upd (fun _ => 0) 0 (-1)) 1 (-1)) 2 (-1)) 3 (-1)) 4 (-1)) 5 (-1)))), (q6, .inl (cy 8, 240, .inl (fun _ => 0))), (q7, .inl (cy 8, 4, .inl (upd (upd (upd (upd (fun _ => 0) 0 (-1)) 1 (-1)) 2 (-1)) 3 (-1)))), (q8, .inl (cy 8, 240, .inl (fun _ => 0))), (q9, .inl (cy 8, 6, .inl (fun _ => 0))), (q10, .inl (cy 8, 24, .inl (fun _ => 0)))]) wA_I (by decide) (by decide) (by decide) (Nat.le_of_ble_eq_true rfl) (Nat.le_of_ble_eq_true rfl) (fun _ => rfl) dX6_init_126 (fun q10 => ?_)
  refine su_putF X hin 0 (k := 19) [(h0, .inr (6, [.ref q1, .int 0, .ref q2, .ref q3, .ref q4, .ref q5, .ref q6, .ref q7, .ref q8, .int 0, .long 0, .long 1, .int 0, .ref q9, .int 0, .int 0, .int 0, .int 0, .int 0, .ref q10, .int 0, .int 0, .null, .int 0, .int 0, .int 0, .int 0, .null, .null])), (q1, .inl (cy 8, 835, .inl (fun _ => 0))), (q2, .inl (cy 8, 6, .inl (fun _ => 0))), (q3, .inl (cy 8, 6, .inl (fun _ => 0))), (q4, .inl (cy 8, 6, .inl (fun _ => 0))), (q5, .inl (cy 8, 6, .inl (upd (upd (upd (upd (upd (upd (fun _ => 0) 0 (-1)) 1 (-1)) 2 (-1)) 3 (-1)) 4 (-1)) 5 (-1)))), (q6, .inl (cy 8, 240, .inl (fun _ => 0))), (q7, .inl (cy 8, 4, .inl (upd (upd (upd (upd (fun _ => 0) 0 (-1)) 1 (-1)) 2 (-1)) 3 (-1)))), (q8, .inl (cy 8, 240, .inl (fun _ => 0))), (q9, .inl (cy 8, 6, .inl (fun _ => 0))), (q10, .inl (cy 8, 24, .inl (fun _ => 0)))] sw_cl6 rfl (by decide) rfl rfl rfl rfl rfl (Nat.le_of_ble_eq_true rfl) rfl wf_X6_41 dX6_init_128 ?_
  refine su_aload_n X 0 rfl rfl dX6_init_131 ?_
  refine su_bipush X (v := 6) (by decide) dX6_init_132 ?_
  refine su_newaI X (N' := 6) (fun q11 => [(h0, .inr (6, [.ref q1, .int 0, .ref q2, .ref q3, .ref q4, .ref q5, .ref q6, .ref q7, .ref q8, .int 0, .long 0, .long 1, .int 0, .ref q9, .int 0, .int 0, .int 0, .int 0, .int 0, .ref q10, .int 0, .int 0, .null, .int 0, .int 0, .int 0, .int 0, .null, .null])), (q1, .inl (cy 8, 835, .inl (fun _ => 0))), (q2, .inl (cy 8, 6, .inl (fun _ => 0))), (q3, .inl (cy 8, 6, .inl (fun _ => 0))), (q4, .inl (cy 8, 6, .inl (fun _ => 0))), (q5, .inl (cy 8, 6, .inl (upd (upd (upd (upd (upd (upd (fun _ => 0) 0 (-1)) 1 (-1)) 2 (-1)) 3 (-1)) 4 (-1)) 5 (-1)))), (q6, .inl (cy 8, 240, .inl (fun _ => 0))), (q7, .inl (cy 8, 4, .inl (upd (upd (upd (upd (fun _ => 0) 0 (-1)) 1 (-1)) 2 (-1)) 3 (-1)))), (q8, .inl (cy 8, 240, .inl (fun _ => 0))), (q9, .inl (cy 8, 6, .inl (fun _ => 0))), (q10, .inl (cy 8, 24, .inl (fun _ => 0))), (q11, .inl (cy 8, 6, .inl (fun _ => 0)))]) wA_I (by decide) (by decide) (by decide) (Nat.le_of_ble_eq_true rfl) (Nat.le_of_ble_eq_true rfl) (fun _ => rfl) dX6_init_134 (fun q11 => ?_)
  refine su_putF X hin 0 (k := 22) [(h0, .inr (6, [.ref q1, .int 0, .ref q2, .ref q3, .ref q4, .ref q5, .ref q6, .ref q7, .ref q8, .int 0, .long 0, .long 1, .int 0, .ref q9, .int 0, .int 0, .int 0, .int 0, .int 0, .ref q10, .int 0, .int 0, .ref q11, .int 0, .int 0, .int 0, .int 0, .null, .null])), (q1, .inl (cy 8, 835, .inl (fun _ => 0))), (q2, .inl (cy 8, 6, .inl (fun _ => 0))), (q3, .inl (cy 8, 6, .inl (fun _ => 0))), (q4, .inl (cy 8, 6, .inl (fun _ => 0))), (q5, .inl (cy 8, 6, .inl (upd (upd (upd (upd (upd (upd (fun _ => 0) 0 (-1)) 1 (-1)) 2 (-1)) 3 (-1)) 4 (-1)) 5 (-1)))), (q6, .inl (cy 8, 240, .inl (fun _ => 0))), (q7, .inl (cy 8, 4, .inl (upd (upd (upd (upd (fun _ => 0) 0 (-1)) 1 (-1)) 2 (-1)) 3 (-1)))), (q8, .inl (cy 8, 240, .inl (fun _ => 0))), (q9, .inl (cy 8, 6, .inl (fun _ => 0))), (q10, .inl (cy 8, 24, .inl (fun _ => 0))), (q11, .inl (cy 8, 6, .inl (fun _ => 0)))] sw_cl6 rfl (by decide) rfl rfl rfl rfl rfl (Nat.le_of_ble_eq_true rfl) rfl wf_X6_44 dX6_init_136 ?_
  refine su_aload_n X 0 rfl rfl dX6_init_139 ?_
  refine su_bipush X (v := 64) (by decide) dX6_init_140 ?_
  refine su_newaZ X (N' := 64) (fun q12 => [(h0, .inr (6, [.ref q1, .int 0, .ref q2, .ref q3, .ref q4, .ref q5, .ref q6, .ref q7, .ref q8, .int 0, .long 0, .long 1, .int 0, .ref q9, .int 0, .int 0, .int 0, .int 0, .int 0, .ref q10, .int 0, .int 0, .ref q11, .int 0, .int 0, .int 0, .int 0, .null, .null])), (q1, .inl (cy 8, 835, .inl (fun _ => 0))), (q2, .inl (cy 8, 6, .inl (fun _ => 0))), (q3, .inl (cy 8, 6, .inl (fun _ => 0))), (q4, .inl (cy 8, 6, .inl (fun _ => 0))), (q5, .inl (cy 8, 6, .inl (upd (upd (upd (upd (upd (upd (fun _ => 0) 0 (-1)) 1 (-1)) 2 (-1)) 3 (-1)) 4 (-1)) 5 (-1)))), (q6, .inl (cy 8, 240, .inl (fun _ => 0))), (q7, .inl (cy 8, 4, .inl (upd (upd (upd (upd (fun _ => 0) 0 (-1)) 1 (-1)) 2 (-1)) 3 (-1)))), (q8, .inl (cy 8, 240, .inl (fun _ => 0))), (q9, .inl (cy 8, 6, .inl (fun _ => 0))), (q10, .inl (cy 8, 24, .inl (fun _ => 0))), (q11, .inl (cy 8, 6, .inl (fun _ => 0))), (q12, .inl (cy 9, 64, .inl (fun _ => 0)))]) wA_Z (by decide) (by decide) (by decide) (Nat.le_of_ble_eq_true rfl) (Nat.le_of_ble_eq_true rfl) (fun _ => rfl) dX6_init_142 (fun q12 => ?_)
  refine su_putF X hin 0 (k := 27) [(h0, .inr (6, [.ref q1, .int 0, .ref q2, .ref q3, .ref q4, .ref q5, .ref q6, .ref q7, .ref q8, .int 0, .long 0, .long 1, .int 0, .ref q9, .int 0, .int 0, .int 0, .int 0, .int 0, .ref q10, .int 0, .int 0, .ref q11, .int 0, .int 0, .int 0, .int 0, .ref q12, .null])), (q1, .inl (cy 8, 835, .inl (fun _ => 0))), (q2, .inl (cy 8, 6, .inl (fun _ => 0))), (q3, .inl (cy 8, 6, .inl (fun _ => 0))), (q4, .inl (cy 8, 6, .inl (fun _ => 0))), (q5, .inl (cy 8, 6, .inl (upd (upd (upd (upd (upd (upd (fun _ => 0) 0 (-1)) 1 (-1)) 2 (-1)) 3 (-1)) 4 (-1)) 5 (-1)))), (q6, .inl (cy 8, 240, .inl (fun _ => 0))), (q7, .inl (cy 8, 4, .inl (upd (upd (upd (upd (fun _ => 0) 0 (-1)) 1 (-1)) 2 (-1)) 3 (-1)))), (q8, .inl (cy 8, 240, .inl (fun _ => 0))), (q9, .inl (cy 8, 6, .inl (fun _ => 0))), (q10, .inl (cy 8, 24, .inl (fun _ => 0))), (q11, .inl (cy 8, 6, .inl (fun _ => 0))), (q12, .inl (cy 9, 64, .inl (fun _ => 0)))] sw_cl6 rfl (by decide) rfl rfl rfl rfl rfl (Nat.le_of_ble_eq_true rfl) rfl wf_X6_47 dX6_init_144 ?_
  refine su_aload_n X 0 rfl rfl dX6_init_147 ?_
  refine su_sipush X (v := 2401) (by decide) dX6_init_148 ?_
  refine su_newaI X (N' := 2401) (fun q13 => [(h0, .inr (6, [.ref q1, .int 0, .ref q2, .ref q3, .ref q4, .ref q5, .ref q6, .ref q7, .ref q8, .int 0, .long 0, .long 1, .int 0, .ref q9, .int 0, .int 0, .int 0, .int 0, .int 0, .ref q10, .int 0, .int 0, .ref q11, .int 0, .int 0, .int 0, .int 0, .ref q12, .null])), (q1, .inl (cy 8, 835, .inl (fun _ => 0))), (q2, .inl (cy 8, 6, .inl (fun _ => 0))), (q3, .inl (cy 8, 6, .inl (fun _ => 0))), (q4, .inl (cy 8, 6, .inl (fun _ => 0))), (q5, .inl (cy 8, 6, .inl (upd (upd (upd (upd (upd (upd (fun _ => 0) 0 (-1)) 1 (-1)) 2 (-1)) 3 (-1)) 4 (-1)) 5 (-1)))), (q6, .inl (cy 8, 240, .inl (fun _ => 0))), (q7, .inl (cy 8, 4, .inl (upd (upd (upd (upd (fun _ => 0) 0 (-1)) 1 (-1)) 2 (-1)) 3 (-1)))), (q8, .inl (cy 8, 240, .inl (fun _ => 0))), (q9, .inl (cy 8, 6, .inl (fun _ => 0))), (q10, .inl (cy 8, 24, .inl (fun _ => 0))), (q11, .inl (cy 8, 6, .inl (fun _ => 0))), (q12, .inl (cy 9, 64, .inl (fun _ => 0))), (q13, .inl (cy 8, 2401, .inl (fun _ => 0)))]) wA_I (by decide) (by decide) (by decide) (Nat.le_of_ble_eq_true rfl) (Nat.le_of_ble_eq_true rfl) (fun _ => rfl) dX6_init_151 (fun q13 => ?_)
  refine su_putF X hin 0 (k := 28) [(h0, .inr (6, [.ref q1, .int 0, .ref q2, .ref q3, .ref q4, .ref q5, .ref q6, .ref q7, .ref q8, .int 0, .long 0, .long 1, .int 0, .ref q9, .int 0, .int 0, .int 0, .int 0, .int 0, .ref q10, .int 0, .int 0, .ref q11, .int 0, .int 0, .int 0, .int 0, .ref q12, .ref q13])), (q1, .inl (cy 8, 835, .inl (fun _ => 0))), (q2, .inl (cy 8, 6, .inl (fun _ => 0))), (q3, .inl (cy 8, 6, .inl (fun _ => 0))), (q4, .inl (cy 8, 6, .inl (fun _ => 0))), (q5, .inl (cy 8, 6, .inl (upd (upd (upd (upd (upd (upd (fun _ => 0) 0 (-1)) 1 (-1)) 2 (-1)) 3 (-1)) 4 (-1)) 5 (-1)))), (q6, .inl (cy 8, 240, .inl (fun _ => 0))), (q7, .inl (cy 8, 4, .inl (upd (upd (upd (upd (fun _ => 0) 0 (-1)) 1 (-1)) 2 (-1)) 3 (-1)))), (q8, .inl (cy 8, 240, .inl (fun _ => 0))), (q9, .inl (cy 8, 6, .inl (fun _ => 0))), (q10, .inl (cy 8, 24, .inl (fun _ => 0))), (q11, .inl (cy 8, 6, .inl (fun _ => 0))), (q12, .inl (cy 9, 64, .inl (fun _ => 0))), (q13, .inl (cy 8, 2401, .inl (fun _ => 0)))] sw_cl6 rfl (by decide) rfl rfl rfl rfl rfl (Nat.le_of_ble_eq_true rfl) rfl wf_X6_51 dX6_init_153 ?_
  refine su_iconst X (v := 1) (by decide) dX6_init_156 ?_
  refine su_istore_n X [(1, .int 1), (0, .ref h0)] rfl (by decide) rfl dX6_init_157 ?_
  refine su_iload_n X 0 rfl rfl dX6_init_158 ?_
  refine su_iconst X (v := 4) (by decide) dX6_init_159 ?_
  refine su_ge_f X 182 (by decide) (by decide) dX6_init_160 ?_
  refine su_aload_n X 1 rfl rfl dX6_init_163 ?_
  refine su_get X 0 (k := 0) sw_cl6 rfl (by decide) rfl wf_X6_7 dX6_init_164 ?_
  refine su_sipush X (v := 207) (by decide) dX6_init_167 ?_
  refine su_iload_n X 0 rfl rfl dX6_init_170 ?_
  refine su_imul X (z := 207) (by decide) dX6_init_171 ?_
  refine su_iconst X (v := 0) (by decide) dX6_init_172 ?_
  refine su_iadd X (z := 207) (by decide) dX6_init_173 ?_
  refine su_iconst X (v := (-1)) (by decide) dX6_init_174 ?_
  refine su_iast X 1 (i := 207) [(h0, .inr (6, [.ref q1, .int 0, .ref q2, .ref q3, .ref q4, .ref q5, .ref q6, .ref q7, .ref q8, .int 0, .long 0, .long 1, .int 0, .ref q9, .int 0, .int 0, .int 0, .int 0, .int 0, .ref q10, .int 0, .int 0, .ref q11, .int 0, .int 0, .int 0, .int 0, .ref q12, .ref q13])), (q1, .inl (cy 8, 835, .inl (upd (fun _ => 0) 207 (-1)))), (q2, .inl (cy 8, 6, .inl (fun _ => 0))), (q3, .inl (cy 8, 6, .inl (fun _ => 0))), (q4, .inl (cy 8, 6, .inl (fun _ => 0))), (q5, .inl (cy 8, 6, .inl (upd (upd (upd (upd (upd (upd (fun _ => 0) 0 (-1)) 1 (-1)) 2 (-1)) 3 (-1)) 4 (-1)) 5 (-1)))), (q6, .inl (cy 8, 240, .inl (fun _ => 0))), (q7, .inl (cy 8, 4, .inl (upd (upd (upd (upd (fun _ => 0) 0 (-1)) 1 (-1)) 2 (-1)) 3 (-1)))), (q8, .inl (cy 8, 240, .inl (fun _ => 0))), (q9, .inl (cy 8, 6, .inl (fun _ => 0))), (q10, .inl (cy 8, 24, .inl (fun _ => 0))), (q11, .inl (cy 8, 6, .inl (fun _ => 0))), (q12, .inl (cy 9, 64, .inl (fun _ => 0))), (q13, .inl (cy 8, 2401, .inl (fun _ => 0)))] rfl (by unfold vp_in; decide) rfl dX6_init_175 ?_
  refine su_iinc X 0 2 [(1, .int 2), (0, .ref h0)] rfl (by decide) (by decide) rfl dX6_init_176 ?_
  refine su_goto X 158 (by decide) dX6_init_179 ?_
  refine su_iload_n X 0 rfl rfl dX6_init_158 ?_
  refine su_iconst X (v := 4) (by decide) dX6_init_159 ?_
  refine su_ge_f X 182 (by decide) (by decide) dX6_init_160 ?_
  refine su_aload_n X 1 rfl rfl dX6_init_163 ?_
  refine su_get X 0 (k := 0) sw_cl6 rfl (by decide) rfl wf_X6_7 dX6_init_164 ?_
  refine su_sipush X (v := 207) (by decide) dX6_init_167 ?_
  refine su_iload_n X 0 rfl rfl dX6_init_170 ?_
  refine su_imul X (z := 414) (by decide) dX6_init_171 ?_
  refine su_iconst X (v := 0) (by decide) dX6_init_172 ?_
  refine su_iadd X (z := 414) (by decide) dX6_init_173 ?_
  refine su_iconst X (v := (-1)) (by decide) dX6_init_174 ?_
  refine su_iast X 1 (i := 414) [(h0, .inr (6, [.ref q1, .int 0, .ref q2, .ref q3, .ref q4, .ref q5, .ref q6, .ref q7, .ref q8, .int 0, .long 0, .long 1, .int 0, .ref q9, .int 0, .int 0, .int 0, .int 0, .int 0, .ref q10, .int 0, .int 0, .ref q11, .int 0, .int 0, .int 0, .int 0, .ref q12, .ref q13])), (q1, .inl (cy 8, 835, .inl (upd (upd (fun _ => 0) 207 (-1)) 414 (-1)))), (q2, .inl (cy 8, 6, .inl (fun _ => 0))), (q3, .inl (cy 8, 6, .inl (fun _ => 0))), (q4, .inl (cy 8, 6, .inl (fun _ => 0))), (q5, .inl (cy 8, 6, .inl (upd (upd (upd (upd (upd (upd (fun _ => 0) 0 (-1)) 1 (-1)) 2 (-1)) 3 (-1)) 4 (-1)) 5 (-1)))), (q6, .inl (cy 8, 240, .inl (fun _ => 0))), (q7, .inl (cy 8, 4, .inl (upd (upd (upd (upd (fun _ => 0) 0 (-1)) 1 (-1)) 2 (-1)) 3 (-1)))), (q8, .inl (cy 8, 240, .inl (fun _ => 0))), (q9, .inl (cy 8, 6, .inl (fun _ => 0))), (q10, .inl (cy 8, 24, .inl (fun _ => 0))), (q11, .inl (cy 8, 6, .inl (fun _ => 0))), (q12, .inl (cy 9, 64, .inl (fun _ => 0))), (q13, .inl (cy 8, 2401, .inl (fun _ => 0)))] rfl (by unfold vp_in; decide) rfl dX6_init_175 ?_
  refine su_iinc X 0 3 [(1, .int 3), (0, .ref h0)] rfl (by decide) (by decide) rfl dX6_init_176 ?_
  refine su_goto X 158 (by decide) dX6_init_179 ?_
  refine su_iload_n X 0 rfl rfl dX6_init_158 ?_
  refine su_iconst X (v := 4) (by decide) dX6_init_159 ?_
  refine su_ge_f X 182 (by decide) (by decide) dX6_init_160 ?_
  refine su_aload_n X 1 rfl rfl dX6_init_163 ?_
  refine su_get X 0 (k := 0) sw_cl6 rfl (by decide) rfl wf_X6_7 dX6_init_164 ?_
  refine su_sipush X (v := 207) (by decide) dX6_init_167 ?_
  refine su_iload_n X 0 rfl rfl dX6_init_170 ?_
  refine su_imul X (z := 621) (by decide) dX6_init_171 ?_
  refine su_iconst X (v := 0) (by decide) dX6_init_172 ?_
  refine su_iadd X (z := 621) (by decide) dX6_init_173 ?_
  refine su_iconst X (v := (-1)) (by decide) dX6_init_174 ?_
  refine su_iast X 1 (i := 621) [(h0, .inr (6, [.ref q1, .int 0, .ref q2, .ref q3, .ref q4, .ref q5, .ref q6, .ref q7, .ref q8, .int 0, .long 0, .long 1, .int 0, .ref q9, .int 0, .int 0, .int 0, .int 0, .int 0, .ref q10, .int 0, .int 0, .ref q11, .int 0, .int 0, .int 0, .int 0, .ref q12, .ref q13])), (q1, .inl (cy 8, 835, .inl (upd (upd (upd (fun _ => 0) 207 (-1)) 414 (-1)) 621 (-1)))), (q2, .inl (cy 8, 6, .inl (fun _ => 0))), (q3, .inl (cy 8, 6, .inl (fun _ => 0))), (q4, .inl (cy 8, 6, .inl (fun _ => 0))), (q5, .inl (cy 8, 6, .inl (upd (upd (upd (upd (upd (upd (fun _ => 0) 0 (-1)) 1 (-1)) 2 (-1)) 3 (-1)) 4 (-1)) 5 (-1)))), (q6, .inl (cy 8, 240, .inl (fun _ => 0))), (q7, .inl (cy 8, 4, .inl (upd (upd (upd (upd (fun _ => 0) 0 (-1)) 1 (-1)) 2 (-1)) 3 (-1)))), (q8, .inl (cy 8, 240, .inl (fun _ => 0))), (q9, .inl (cy 8, 6, .inl (fun _ => 0))), (q10, .inl (cy 8, 24, .inl (fun _ => 0))), (q11, .inl (cy 8, 6, .inl (fun _ => 0))), (q12, .inl (cy 9, 64, .inl (fun _ => 0))), (q13, .inl (cy 8, 2401, .inl (fun _ => 0)))] rfl (by unfold vp_in; decide) rfl dX6_init_175 ?_
  refine su_iinc X 0 4 [(1, .int 4), (0, .ref h0)] rfl (by decide) (by decide) rfl dX6_init_176 ?_
  refine su_goto X 158 (by decide) dX6_init_179 ?_
  refine su_iload_n X 0 rfl rfl dX6_init_158 ?_
  refine su_iconst X (v := 4) (by decide) dX6_init_159 ?_
  refine su_ge_t X 182 (by decide) (by decide) dX6_init_160 ?_
  refine su_vret X (fun i => [h0, q1, q2, q3, q4, q5, q6, q7, q8, q9, q10, q11, q12, q13].getD (i - 63) 0) (fun H h => ?_) (fun B h => ?_) hr hlk dX6_init_182
  · exact va_P.sub h [0, 1, 2, 3, 4, 5, 6, 7, 8, 9, 10, 11, 12, 13] rfl
  · exact va_D.sub h [0, 1, 2, 3, 4, 5, 6, 7, 8, 9, 10, 11, 12, 13] rfl rfl
