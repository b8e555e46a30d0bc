theorem dX4_init_0 : decode cX4_init 0 = .ok (.aload_n 0, 1) := by decide +kernel
theorem dX4_init_1 : decode cX4_init 1 = .ok (.invokespecial 3, 3) := by decide +kernel
theorem dX4_init_4 : decode cX4_init 4 = .ok (.aload_n 0, 1) := by decide +kernel
theorem dX4_init_5 : decode cX4_init 5 = .ok (.iconst 0, 1) := by decide +kernel
theorem dX4_init_6 : decode cX4_init 6 = .ok (.putfield 9, 3) := by decide +kernel
theorem dX4_init_9 : decode cX4_init 9 = .ok (.aload_n 0, 1) := by decide +kernel
theorem dX4_init_10 : decode cX4_init 10 = .ok (.bipush 6, 2) := by decide +kernel
theorem dX4_init_12 : decode cX4_init 12 = .ok (.newarray .int, 2) := by decide +kernel
theorem dX4_init_14 : decode cX4_init 14 = .ok (.putfield 15, 3) := by decide +kernel
theorem dX4_init_17 : decode cX4_init 17 = .ok (.aload_n 0, 1) := by decide +kernel
theorem dX4_init_18 : decode cX4_init 18 = .ok (.bipush 6, 2) := by decide +kernel
theorem dX4_init_20 : decode cX4_init 20 = .ok (.newarray .int, 2) := by decide +kernel
theorem dX4_init_22 : decode cX4_init 22 = .ok (.putfield 19, 3) := by decide +kernel
theorem dX4_init_25 : decode cX4_init 25 = .ok (.aload_n 0, 1) := by decide +kernel
theorem dX4_init_26 : decode cX4_init 26 = .ok (.bipush 6, 2) := by decide +kernel
theorem dX4_init_28 : decode cX4_init 28 = .ok (.newarray .int, 2) := by decide +kernel
theorem dX4_init_30 : decode cX4_init 30 = .ok (.putfield 22, 3) := by decide +kernel
theorem dX4_init_33 : decode cX4_init 33 = .ok (.aload_n 0, 1) := by decide +kernel
theorem dX4_init_34 : decode cX4_init 34 = .ok (.bipush 6, 2) := by decide +kernel
theorem dX4_init_36 : decode cX4_init 36 = .ok (.newarray .int, 2) := by decide +kernel
theorem dX4_init_38 : decode cX4_init 38 = .ok (.putfield 25, 3) := by decide +kernel
theorem dX4_init_41 : decode cX4_init 41 = .ok (.aload_n 0, 1) := by decide +kernel
theorem dX4_init_42 : decode cX4_init 42 = .ok (.iconst 0, 1) := by decide +kernel
theorem dX4_init_43 : decode cX4_init 43 = .ok (.putfield 28, 3) := by decide +kernel
theorem dX4_init_46 : decode cX4_init 46 = .ok (.aload_n 0, 1) := by decide +kernel
theorem dX4_init_47 : decode cX4_init 47 = .ok (.iconst 0, 1) := by decide +kernel
theorem dX4_init_48 : decode cX4_init 48 = .ok (.putfield 31, 3) := by decide +kernel
theorem dX4_init_51 : decode cX4_init 51 = .ok (.aload_n 0, 1) := by decide +kernel
theorem dX4_init_52 : decode cX4_init 52 = .ok (.iconst 0, 1) := by decide +kernel
theorem dX4_init_53 : decode cX4_init 53 = .ok (.putfield 34, 3) := by decide +kernel
theorem dX4_init_56 : decode cX4_init 56 = .ok (.aload_n 0, 1) := by decide +kernel
theorem dX4_init_57 : decode cX4_init 57 = .ok (.iconst 0, 1) := by decide +kernel
theorem dX4_init_58 : decode cX4_init 58 = .ok (.putfield 37, 3) := by decide +kernel
theorem dX4_init_61 : decode cX4_init 61 = .ok (.aload_n 0, 1) := by decide +kernel
theorem dX4_init_62 : decode cX4_init 62 = .ok (.iconst 0, 1) := by decide +kernel
theorem dX4_init_63 : decode cX4_init 63 = .ok (.putfield 40, 3) := by decide +kernel
theorem dX4_init_66 : decode cX4_init 66 = .ok (.aload_n 0, 1) := by decide +kernel
theorem dX4_init_67 : decode cX4_init 67 = .ok (.iconst 0, 1) := by decide +kernel
theorem dX4_init_68 : decode cX4_init 68 = .ok (.putfield 43, 3) := by decide +kernel
theorem dX4_init_71 : decode cX4_init 71 = .ok (.aload_n 0, 1) := by decide +kernel
theorem dX4_init_72 : decode cX4_init 72 = .ok (.iconst 0, 1) := by decide +kernel
theorem dX4_init_73 : decode cX4_init 73 = .ok (.putfield 46, 3) := by decide +kernel
theorem dX4_init_76 : decode cX4_init 76 = .ok (.aload_n 0, 1) := by decide +kernel
theorem dX4_init_77 : decode cX4_init 77 = .ok (.bipush 40, 2) := by decide +kernel
theorem dX4_init_79 : decode cX4_init 79 = .ok (.newarray .int, 2) := by decide +kernel
theorem dX4_init_81 : decode cX4_init 81 = .ok (.putfield 49, 3) := by decide +kernel
theorem dX4_init_84 : decode cX4_init 84 = .ok (.aload_n 0, 1) := by decide +kernel
theorem dX4_init_85 : decode cX4_init 85 = .ok (.bipush 40, 2) := by decide +kernel
theorem dX4_init_87 : decode cX4_init 87 = .ok (.newarray .int, 2) := by decide +kernel
theorem dX4_init_89 : decode cX4_init 89 = .ok (.putfield 52, 3) := by decide +kernel
theorem dX4_init_92 : decode cX4_init 92 = .ok (.aload_n 0, 1) := by decide +kernel
theorem dX4_init_93 : decode cX4_init 93 = .ok (.iconst 0, 1) := by decide +kernel
theorem dX4_init_94 : decode cX4_init 94 = .ok (.putfield 55, 3) := by decide +kernel
theorem dX4_init_97 : decode cX4_init 97 = .ok (.return_, 1) := by decide +kernel
set_option maxHeartbeats 4000000 in
set_option maxRecDepth 100000 in
theorem c_X4_init (h0 : Nat) : su_C yX4_init (.code yX4_init cX4_init 1 none) 1 6 104 [.ref h0] (fun cy => [(h0, .inr (4, [.int 0, .null, .null, .null, .null, .int 0, .int 0, .int 0, .int 0, .int 0, .int 0, .int 0, .null, .null, .int 0]))]) (fun cy u => [(h0, .inr (4, [.int 0, .ref (u 1), .ref (u 2), .ref (u 3), .ref (u 4), .int 0, .int 0, .int 0, .int 0, .int 0, .int 0, .int 0, .ref (u 5), .ref (u 6), .int 0])), ((u 1), .inl (cy 8, 6, .inl (fun _ => 0))), ((u 2), .inl (cy 8, 6, .inl (fun _ => 0))), ((u 3), .inl (cy 8, 6, .inl (fun _ => 0))), ((u 4), .inl (cy 8, 6, .inl (fun _ => 0))), ((u 5), .inl (cy 8, 40, .inl (fun _ => 0))), ((u 6), .inl (cy 8, 40, .inl (fun _ => 0)))]) := by
  refine su_ent RX4 [(0, .ref h0)] (by decide) rfl (Nat.le_of_ble_eq_true rfl) rfl ?_
  intro p l e s m args below meth c D cy X hr hlk hin
  refine su_aload_n X 0 rfl rfl dX4_init_0 ?_
  refine su_oinit X wm_X4_3 wo_i wo_c (Nat.le_of_ble_eq_true rfl) (Nat.le_of_ble_eq_true rfl) dX4_init_1 ?_
  refine su_aload_n X 0 rfl rfl dX4_init_4 ?_
  refine su_iconst X (v := 0) (by decide) dX4_init_5 ?_
  refine su_put X 0 (k := 0) [(h0, .inr (4, [.int 0, .null, .null, .null, .null, .int 0, .int 0, .int 0, .int 0, .int 0, .int 0, .int 0, .null, .null, .int 0]))] sw_cl4 rfl (by decide) rfl rfl rfl rfl (Nat.le_of_ble_eq_true rfl) rfl wf_X4_9 dX4_init_6 ?_
  refine su_aload_n X 0 rfl rfl dX4_init_9 ?_
  refine su_bipush X (v := 6) (by decide) dX4_init_10 ?_
  refine su_newaI X (N' := 6) (fun q1 => [(h0, .inr (4, [.int 0, .null, .null, .null, .null, .int 0, .int 0, .int 0, .int 0, .int 0, .int 0, .int 0, .null, .null, .int 0])), (q1, .inl (cy 8, 6, .inl (fun _ => 0)))]) wA_I (by decide) (by decide) (by decide) (Nat.le_of_ble_eq_true rfl) (Nat.le_of_ble_eq_true rfl) (fun _ => rfl) dX4_init_12 (fun q1 => ?_)
  refine su_putF X hin 0 (k := 1) [(h0, .inr (4, [.int 0, .ref q1, .null, .null, .null, .int 0, .int 0, .int 0, .int 0, .int 0, .int 0, .int 0, .null, .null, .int 0])), (q1, .inl (cy 8, 6, .inl (fun _ => 0)))] sw_cl4 rfl (by decide) rfl rfl rfl rfl rfl (Nat.le_of_ble_eq_true rfl) rfl wf_X4_15 dX4_init_14 ?_
  refine su_aload_n X 0 rfl rfl dX4_init_17 ?_
  refine su_bipush X (v := 6) (by decide) dX4_init_18 ?_
  refine su_newaI X (N' := 6) (fun q2 => [(h0, .inr (4, [.int 0, .ref q1, .null, .null, .null, .int 0, .int 0, .int 0, .int 0, .int 0, .int 0, .int 0, .null, .null, .int 0])), (q1, .inl (cy 8, 6, .inl (fun _ => 0))), (q2, .inl (cy 8, 6, .inl (fun _ => 0)))]) wA_I (by decide) (by decide) (by decide) (Nat.le_of_ble_eq_true rfl) (Nat.le_of_ble_eq_true rfl) (fun _ => rfl) dX4_init_20 (fun q2 => ?_)
  refine su_putF X hin 0 (k := 2) [(h0, .inr (4, [.int 0, .ref q1, .ref q2, .null, .null, .int 0, .int 0, .int 0, .int 0, .int 0, .int 0, .int 0, .null, .null, .int 0])), (q1, .inl (cy 8, 6, .inl (fun _ => 0))), (q2, .inl (cy 8, 6, .inl (fun _ => 0)))] sw_cl4 rfl (by decide) rfl rfl rfl rfl rfl (Nat.le_of_ble_eq_true rfl) rfl wf_X4_19 dX4_init_22 ?_
  refine su_aload_n X 0 rfl rfl dX4_init_25 ?_
  refine su_bipush X (v := 6) (by decide) dX4_init_26 ?_
  refine su_newaI X (N' := 6) (fun q3 => [(h0, .inr (4, [.int 0, .ref q1, .ref q2, .null, .null, .int 0, .int 0, .int 0, .int 0, .int 0, .int 0, .int 0, .null, .null, .int 0])), (q1, .inl (cy 8, 6, .inl (fun _ => 0))), (q2, .inl (cy 8, 6, .inl (fun _ => 0))), (q3, .inl (cy 8, 6, .inl (fun _ => 0)))]) wA_I (by decide) (by decide) (by decide) (Nat.le_of_ble_eq_true rfl) (Nat.le_of_ble_eq_true rfl) (fun _ => rfl) dX4_init_28 (fun q3 => ?_)
  refine su_putF X hin 0 (k := 3) [(h0, .inr (4, [.int 0, .ref q1, .ref q2, .ref q3, .null, .int 0, .int 0, .int 0, .int 0, .int 0, .int 0, .int 0, .null, .null, .int 0])), (q1, .inl (cy 8, 6, .inl (fun _ => 0))), (q2, .inl (cy 8, 6, .inl (fun _ => 0))), (q3, .inl (cy 8, 6, .inl (fun _ => 0)))] sw_cl4 rfl (by decide) rfl rfl rfl rfl rfl (Nat.le_of_ble_eq_true rfl) rfl wf_X4_22 dX4_init_30 ?_
  refine su_aload_n X 0 rfl rfl dX4_init_33 ?_
  refine su_bipush X (v := 6) (by decide) dX4_init_34 ?_
  refine su_newaI X (N' := 6) (fun q4 => [(h0, .inr (4, [.int 0, .ref q1, .ref q2, .ref q3, .null, .int 0, .int 0, .int 0, .int 0, .int 0, .int 0, .int 0, .null, .null, .int 0])), (q1, .inl (cy 8, 6, .inl (fun _ => 0))), (q2, .inl (cy 8, 6, .inl (fun _ => 0))), (q3, .inl (cy 8, 6, .inl (fun _ => 0))), (q4, .inl (cy 8, 6, .inl (fun _ => 0)))]) wA_I (by decide) (by decide) (by decide) (Nat.le_of_ble_eq_true rfl) (Nat.le_of_ble_eq_true rfl) (fun _ => rfl) dX4_init_36 (fun q4 => ?_)
  refine su_putF X hin 0 (k := 4) [(h0, .inr (4, [.int 0, .ref q1, .ref q2, .ref q3, .ref q4, .int 0, .int 0, .int 0, .int 0, .int 0, .int 0, .int 0, .null, .null, .int 0])), (q1, .inl (cy 8, 6, .inl (fun _ => 0))), (q2, .inl (cy 8, 6, .inl (fun _ => 0))), (q3, .inl (cy 8, 6, .inl (fun _ => 0))), (q4, .inl (cy 8, 6, .inl (fun _ => 0)))] sw_cl4 rfl (by decide) rfl rfl rfl rfl rfl (Nat.le_of_ble_eq_true rfl) rfl wf_X4_25 dX4_init_38 ?_
  refine su_aload_n X 0 rfl rfl dX4_init_41 ?_
  refine su_iconst X (v := 0) (by decide) dX4_init_42 ?_
  refine su_put X 0 (k := 5) [(h0, .inr (4, [.int 0, .ref q1, .ref q2, .ref q3, .ref q4, .int 0, .int 0, .int 0, .int 0, .int 0, .int 0, .int 0, .null, .null, .int 0])), (q1, .inl (cy 8, 6, .inl (fun _ => 0))), (q2, .inl (cy 8, 6, .inl (fun _ => 0))), (q3, .inl (cy 8, 6, .inl (fun _ => 0))), (q4, .inl (cy 8, 6, .inl (fun _ => 0)))] sw_cl4 rfl (by decide) rfl rfl rfl rfl (Nat.le_of_ble_eq_true rfl) rfl wf_X4_28 dX4_init_43 ?_
  refine su_aload_n X 0 rfl rfl dX4_init_46 ?_
  refine su_iconst X (v := 0) (by decide) dX4_init_47 ?_
  refine su_put X 0 (k := 6) [(h0, .inr (4, [.int 0, .ref q1, .ref q2, .ref q3, .ref q4, .int 0, .int 0, .int 0, .int 0, .int 0, .int 0, .int 0, .null, .null, .int 0])), (q1, .inl (cy 8, 6, .inl (fun _ => 0))), (q2, .inl (cy 8, 6, .inl (fun _ => 0))), (q3, .inl (cy 8, 6, .inl (fun _ => 0))), (q4, .inl (cy 8, 6, .inl (fun _ => 0)))] sw_cl4 rfl (by decide) rfl rfl rfl rfl (Nat.le_of_ble_eq_true rfl) rfl wf_X4_31 dX4_init_48 ?_
  refine su_aload_n X 0 rfl rfl dX4_init_51 ?_
  refine su_iconst X (v := 0) (by decide) dX4_init_52 ?_
  refine su_put X 0 (k := 7) [(h0, .inr (4, [.int 0, .ref q1, .ref q2, .ref q3, .ref q4, .int 0, .int 0, .int 0, .int 0, .int 0, .int 0, .int 0, .null, .null, .int 0])), (q1, .inl (cy 8, 6, .inl (fun _ => 0))), (q2, .inl (cy 8, 6, .inl (fun _ => 0))), (q3, .inl (cy 8, 6, .inl (fun _ => 0))), (q4, .inl (cy 8, 6, .inl (fun _ => 0)))] sw_cl4 rfl (by decide) rfl rfl rfl rfl (Nat.le_of_ble_eq_true rfl) rfl wf_X4_34 dX4_init_53 ?_
  refine su_aload_n X 0 rfl rfl dX4_init_56 ?_
  refine su_iconst X (v := 0) (by decide) dX4_init_57 ?_
  refine su_put X 0 (k := 8) [(h0, .inr (4, [.int 0, .ref q1, .ref q2, .ref q3, .ref q4, .int 0, .int 0, .int 0, .int 0, .int 0, .int 0, .int 0, .null, .null, .int 0])), (q1, .inl (cy 8, 6, .inl (fun _ => 0))), (q2, .inl (cy 8, 6, .inl (fun _ => 0))), (q3, .inl (cy 8, 6, .inl (fun _ => 0))), (q4, .inl (cy 8, 6, .inl (fun _ => 0)))] sw_cl4 rfl (by decide) rfl rfl rfl rfl (Nat.le_of_ble_eq_true rfl) rfl wf_X4_37 dX4_init_58 ?_
  refine su_aload_n X 0 rfl rfl dX4_init_61 ?_
  refine su_iconst X (v := 0) (by decide) dX4_init_62 ?_
  refine su_put X 0 (k := 9) [(h0, .inr (4, [.int 0, .ref q1, .ref q2, .ref q3, .ref q4, .int 0, .int 0, .int 0, .int 0, .int 0, .int 0, .int 0, .null, .null, .int 0])), (q1, .inl (cy 8, 6, .inl (fun _ => 0))), (q2, .inl (cy 8, 6, .inl (fun _ => 0))), (q3, .inl (cy 8, 6, .inl (fun _ => 0))), (q4, .inl (cy 8, 6, .inl (fun _ => 0)))] sw_cl4 rfl (by decide) rfl rfl rfl rfl (Nat.le_of_ble_eq_true rfl) rfl wf_X4_40 dX4_init_63 ?_
  refine su_aload_n X 0 rfl rfl dX4_init_66 ?_
  refine su_iconst X (v := 0) (by decide) dX4_init_67 ?_
  refine su_put X 0 (k := 10) [(h0, .inr (4, [.int 0, .ref q1, .ref q2, .ref q3, .ref q4, .int 0, .int 0, .int 0, .int 0, .int 0, .int 0, .int 0, .null, .null, .int 0])), (q1, .inl (cy 8, 6, .inl (fun _ => 0))), (q2, .inl (cy 8, 6, .inl (fun _ => 0))), (q3, .inl (cy 8, 6, .inl (fun _ => 0))), (q4, .inl (cy 8, 6, .inl (fun _ => 0)))] sw_cl4 rfl (by decide) rfl rfl rfl rfl (Nat.le_of_ble_eq_true rfl) rfl wf_X4_43 dX4_init_68 ?_
  refine su_aload_n X 0 rfl rfl dX4_init_71 ?_
  refine su_iconst X (v := 0) (by decide) dX4_init_72 ?_
  refine su_put X 0 (k := 11) [(h0, .inr (4, [.int 0, .ref q1, .ref q2, .ref q3, .ref q4, .int 0, .int 0, .int 0, .int 0, .int 0, .int 0, .int 0, .null, .null, .int 0])), (q1, .inl (cy 8, 6, .inl (fun _ => 0))), (q2, .inl (cy 8, 6, .inl (fun _ => 0))), (q3, .inl (cy 8, 6, .inl (fun _ => 0))), (q4, .inl (cy 8, 6, .inl (fun _ => 0)))] sw_cl4 rfl (by decide) rfl rfl rfl rfl (Nat.le_of_ble_eq_true rfl) rfl wf_X4_46 dX4_init_73 ?_
  refine su_aload_n X 0 rfl rfl dX4_init_76 ?_
  refine su_bipush X (v := 40) (by decide) dX4_init_77 ?_
  refine su_newaI X (N' := 40) (fun q5 => [(h0, .inr (4, [.int 0, .ref q1, .ref q2, .ref q3, .ref q4, .int 0, .int 0, .int 0, .int 0, .int 0, .int 0, .int 0, .null, .null, .int 0])), (q1, .inl (cy 8, 6, .inl (fun _ => 0))), (q2, .inl (cy 8, 6, .inl (fun _ => 0))), (q3, .inl (cy 8, 6, .inl (fun _ => 0))), (q4, .inl (cy 8, 6, .inl (fun _ => 0))), (q5, .inl (cy 8, 40, .inl (fun _ => 0)))]) wA_I (by decide) (by decide) (by decide) (Nat.le_of_ble_eq_true rfl) (Nat.le_of_ble_eq_true rfl) (fun _ => rfl) dX4_init_79 (fun q5 => ?_)
  refine su_putF X hin 0 (k := 12) [(h0, .inr (4, [.int 0, .ref q1, .ref q2, .ref q3, .ref q4, .int 0, .int 0, .int 0, .int 0, .int 0, .int 0, .int 0, .ref q5, .null, .int 0])), (q1, .inl (cy 8, 6, .inl (fun _ => 0))), (q2, .inl (cy 8, 6, .inl (fun _ => 0))), (q3, .inl (cy 8, 6, .inl (fun _ => 0))), (q4, .inl (cy 8, 6, .inl (fun _ => 0))), (q5, .inl (cy 8, 40, .inl (fun _ => 0)))] sw_cl4 rfl (by decide) rfl rfl rfl rfl rfl (Nat.le_of_ble_eq_true rfl) rfl wf_X4_49 dX4_init_81 ?_
  refine su_aload_n X 0 rfl rfl dX4_init_84 ?_
  refine su_bipush X (v := 40) (by decide) dX4_init_85 ?_
  refine su_newaI X (N' := 40) (fun q6 => [(h0, .inr (4, [.int 0, .ref q1, .ref q2, .ref q3, .ref q4, .int 0, .int 0, .int 0, .int 0, .int 0, .int 0, .int 0, .ref q5, .null, .int 0])), (q1, .inl (cy 8, 6, .inl (fun _ => 0))), (q2, .inl (cy 8, 6, .inl (fun _ => 0))), (q3, .inl (cy 8, 6, .inl (fun _ => 0))), (q4, .inl (cy 8, 6, .inl (fun _ => 0))), (q5, .inl (cy 8, 40, .inl (fun _ => 0))), (q6, .inl (cy 8, 40, .inl (fun _ => 0)))]) wA_I (by decide) (by decide) (by decide) (Nat.le_of_ble_eq_true rfl) (Nat.le_of_ble_eq_true rfl) (fun _ => rfl) dX4_init_87 (fun q6 => ?_)
  refine su_putF X hin 0 (k := 13) [(h0, .inr (4, [.int 0, .ref q1, .ref q2, .ref q3, .ref q4, .int 0, .int 0, .int 0, .int 0, .int 0, .int 0, .int 0, .ref q5, .ref q6, .int 0])), (q1, .inl (cy 8, 6, .inl (fun _ => 0))), (q2, .inl (cy 8, 6, .inl (fun _ => 0))), (q3, .inl (cy 8, 6, .inl (fun _ => 0))), (q4, .inl (cy 8, 6, .inl (fun _ => 0))), (q5, .inl (cy 8, 40, .inl (fun _ => 0))), (q6, .inl (cy 8, 40, .inl (fun _ => 0)))] sw_cl4 rfl (by decide) rfl rfl rfl rfl rfl (Nat.le_of_ble_eq_true rfl) rfl wf_X4_52 dX4_init_89 ?_
  refine su_aload_n X 0 rfl rfl dX4_init_92 ?_
  refine su_iconst X (v := 0) (by decide) dX4_init_93 ?_
  refine su_put X 0 (k := 14) [(h0, .inr (4, [.int 0, .ref q1, .ref q2, .ref q3, .ref q4, .int 0, .int 0, .int 0, .int 0, .int 0, .int 0, .int 0, .ref q5, .ref q6, .int 0])), (q1, .inl (cy 8, 6, .inl (fun _ => 0))), (q2, .inl (cy 8, 6, .inl (fun _ => 0))), (q3, .inl (cy 8, 6, .inl (fun _ => 0))), (q4, .inl (cy 8, 6, .inl (fun _ => 0))), (q5, .inl (cy 8, 40, .inl (fun _ => 0))), (q6, .inl (cy 8, 40, .inl (fun _ => 0)))] sw_cl4 rfl (by decide) rfl rfl rfl rfl (Nat.le_of_ble_eq_true rfl) rfl wf_X4_55 dX4_init_94 ?_
  exact su_vret X (fun i => [0, q1, q2, q3, q4, q5, q6].getD i 0) (fun H h => h) (fun B h => h) hr hlk dX4_init_97
theorem dX3_init_0 : decode cX3_init 0 = .ok (.aload_n 0, 1) := by decide +kernel
theorem dX3_init_1 : decode cX3_init 1 = .ok (.invokespecial 3, 3) := by decide +kernel
theorem dX3_init_4 : decode cX3_init 4 = .ok (.aload_n 0, 1) := by decide +kernel
theorem dX3_init_5 : decode cX3_init 5 = .ok (.iconst 0, 1) := by decide +kernel
theorem dX3_init_6 : decode cX3_init 6 = .ok (.newarray .byte, 2) := by decide +kernel
theorem dX3_init_8 : decode cX3_init 8 = .ok (.putfield 9, 3) := by decide +kernel
theorem dX3_init_11 : decode cX3_init 11 = .ok (.aload_n 0, 1) := by decide +kernel
theorem dX3_init_12 : decode cX3_init 12 = .ok (.iconst 0, 1) := by decide +kernel
theorem dX3_init_13 : decode cX3_init 13 = .ok (.putfield 15, 3) := by decide +kernel
theorem dX3_init_16 : decode cX3_init 16 = .ok (.aload_n 0, 1) := by decide +kernel
theorem dX3_init_17 : decode cX3_init 17 = .ok (.iconst 0, 1) := by decide +kernel
theorem dX3_init_18 : decode cX3_init 18 = .ok (.putfield 19, 3) := by decide +kernel
theorem dX3_init_21 : decode cX3_init 21 = .ok (.return_, 1) := by decide +kernel
set_option maxHeartbeats 4000000 in
set_option maxRecDepth 100000 in
theorem c_X3_init (h0 : Nat) : su_C yX3_init (.code yX3_init cX3_init 1 none) 1 1 0 [.ref h0] (fun cy => [(h0, .inr (3, [.null, .int 0, .int 0]))]) (fun cy u => [(h0, .inr (3, [.ref (u 1), .int 0, .int 0])), ((u 1), .inl (cy 7, 0, .inl (fun _ => 0)))]) := by
  refine su_ent RX3 [(0, .ref h0)] (by decide) rfl (Nat.le_of_ble_eq_true rfl) rfl ?_
  intro p l e s m args below meth c D cy X hr hlk hin
  refine su_aload_n X 0 rfl rfl dX3_init_0 ?_
  refine su_oinit X wm_X3_3 wo_i wo_c (Nat.le_of_ble_eq_true rfl) (Nat.le_of_ble_eq_true rfl) dX3_init_1 ?_
  refine su_aload_n X 0 rfl rfl dX3_init_4 ?_
  refine su_iconst X (v := 0) (by decide) dX3_init_5 ?_
  refine su_newaB X (N' := 0) (fun q1 => [(h0, .inr (3, [.null, .int 0, .int 0])), (q1, .inl (cy 7, 0, .inl (fun _ => 0)))]) wA_B (by decide) (by decide) (by decide) (Nat.le_of_ble_eq_true rfl) (Nat.le_of_ble_eq_true rfl) (fun _ => rfl) dX3_init_6 (fun q1 => ?_)
  refine su_put X 0 (k := 0) [(h0, .inr (3, [.ref q1, .int 0, .int 0])), (q1, .inl (cy 7, 0, .inl (fun _ => 0)))] sw_cl3 rfl (by decide) rfl rfl rfl rfl (Nat.le_of_ble_eq_true rfl) rfl wf_X3_9 dX3_init_8 ?_
  refine su_aload_n X 0 rfl rfl dX3_init_11 ?_
  refine su_iconst X (v := 0) (by decide) dX3_init_12 ?_
  refine su_put X 0 (k := 1) [(h0, .inr (3, [.ref q1, .int 0, .int 0])), (q1, .inl (cy 7, 0, .inl (fun _ => 0)))] sw_cl3 rfl (by decide) rfl rfl rfl rfl (Nat.le_of_ble_eq_true rfl) rfl wf_X3_15 dX3_init_13 ?_
  refine su_aload_n X 0 rfl rfl dX3_init_16 ?_
  refine su_iconst X (v := 0) (by decide) dX3_init_17 ?_
  refine su_put X 0 (k := 2) [(h0, .inr (3, [.ref q1, .int 0, .int 0])), (q1, .inl (cy 7, 0, .inl (fun _ => 0)))] sw_cl3 rfl (by decide) rfl rfl rfl rfl (Nat.le_of_ble_eq_true rfl) rfl wf_X3_19 dX3_init_18 ?_
  exact su_vret X (fun i => [0, q1].getD i 0) (fun H h => h) (fun B h => h) hr hlk dX3_init_21
theorem dX1_init_0 : decode cX1_init 0 = .ok (.aload_n 0, 1) := by decide +kernel
theorem dX1_init_1 : decode cX1_init 1 = .ok (.invokespecial 3, 3) := by decide +kernel
theorem dX1_init_4 : decode cX1_init 4 = .ok (.aload_n 0, 1) := by decide +kernel
theorem dX1_init_5 : decode cX1_init 5 = .ok (.iconst 0, 1) := by decide +kernel
theorem dX1_init_6 : decode cX1_init 6 = .ok (.putfield 9, 3) := by decide +kernel
theorem dX1_init_9 : decode cX1_init 9 = .ok (.aload_n 0, 1) := by decide +kernel
theorem dX1_init_10 : decode cX1_init 10 = .ok (.iconst 0, 1) := by decide +kernel
theorem dX1_init_11 : decode cX1_init 11 = .ok (.putfield 15, 3) := by decide +kernel
theorem dX1_init_14 : decode cX1_init 14 = .ok (.aload_n 0, 1) := by decide +kernel
theorem dX1_init_15 : decode cX1_init 15 = .ok (.iconst 5, 1) := by decide +kernel
theorem dX1_init_16 : decode cX1_init 16 = .ok (.newarray .int, 2) := by decide +kernel
theorem dX1_init_18 : decode cX1_init 18 = .ok (.putfield 18, 3) := by decide +kernel
theorem dX1_init_21 : decode cX1_init 21 = .ok (.aload_n 0, 1) := by decide +kernel
theorem dX1_init_22 : decode cX1_init 22 = .ok (.iconst 5, 1) := by decide +kernel
theorem dX1_init_23 : decode cX1_init 23 = .ok (.newarray .int, 2) := by decide +kernel
theorem dX1_init_25 : decode cX1_init 25 = .ok (.putfield 22, 3) := by decide +kernel
theorem dX1_init_28 : decode cX1_init 28 = .ok (.aload_n 0, 1) := by decide +kernel
theorem dX1_init_29 : decode cX1_init 29 = .ok (.iconst 0, 1) := by decide +kernel
theorem dX1_init_30 : decode cX1_init 30 = .ok (.putfield 25, 3) := by decide +kernel
theorem dX1_init_33 : decode cX1_init 33 = .ok (.aload_n 0, 1) := by decide +kernel
theorem dX1_init_34 : decode cX1_init 34 = .ok (.bipush (-9), 2) := by decide +kernel
theorem dX1_init_36 : decode cX1_init 36 = .ok (.putfield 28, 3) := by decide +kernel
theorem dX1_init_39 : decode cX1_init 39 = .ok (.aload_n 0, 1) := by decide +kernel
theorem dX1_init_40 : decode cX1_init 40 = .ok (.iconst 0, 1) := by decide +kernel
theorem dX1_init_41 : decode cX1_init 41 = .ok (.putfield 31, 3) := by decide +kernel
theorem dX1_init_44 : decode cX1_init 44 = .ok (.aload_n 0, 1) := by decide +kernel
theorem dX1_init_45 : decode cX1_init 45 = .ok (.iconst 0, 1) := by decide +kernel
theorem dX1_init_46 : decode cX1_init 46 = .ok (.putfield 34, 3) := by decide +kernel
theorem dX1_init_49 : decode cX1_init 49 = .ok (.return_, 1) := by decide +kernel
set_option maxHeartbeats 4000000 in
set_option maxRecDepth 100000 in
theorem c_X1_init (h0 : Nat) : su_C yX1_init (.code yX1_init cX1_init 1 none) 1 2 10 [.ref h0] (fun cy => [(h0, .inr (1, [.int 0, .int 0, .null, .null, .int 0, .int 0, .int 0, .int 0]))]) (fun cy u => [(h0, .inr (1, [.int 0, .int 0, .ref (u 1), .ref (u 2), .int 0, .int (-9), .int 0, .int 0])), ((u 1), .inl (cy 8, 5, .inl (fun _ => 0))), ((u 2), .inl (cy 8, 5, .inl (fun _ => 0)))]) := by
  refine su_ent RX1 [(0, .ref h0)] (by decide) rfl (Nat.le_of_ble_eq_true rfl) rfl ?_
  intro p l e s m args below meth c D cy X hr hlk hin
  refine su_aload_n X 0 rfl rfl dX1_init_0 ?_
  refine su_oinit X wm_X1_3 wo_i wo_c (Nat.le_of_ble_eq_true rfl) (Nat.le_of_ble_eq_true rfl) dX1_init_1 ?_
  refine su_aload_n X 0 rfl rfl dX1_init_4 ?_
  refine su_iconst X (v := 0) (by decide) dX1_init_5 ?_
  refine su_put X 0 (k := 0) [(h0, .inr (1, [.int 0, .int 0, .null, .null, .int 0, .int 0, .int 0, .int 0]))] sw_cl1 rfl (by decide) rfl rfl rfl rfl (Nat.le_of_ble_eq_true rfl) rfl wf_X1_9 dX1_init_6 ?_
  refine su_aload_n X 0 rfl rfl dX1_init_9 ?_
  refine su_iconst X (v := 0) (by decide) dX1_init_10 ?_
  refine su_put X 0 (k := 1) [(h0, .inr (1, [.int 0, .int 0, .null, .null, .int 0, .int 0, .int 0, .int 0]))] sw_cl1 rfl (by decide) rfl rfl rfl rfl (Nat.le_of_ble_eq_true rfl) rfl wf_X1_15 dX1_init_11 ?_
  refine su_aload_n X 0 rfl rfl dX1_init_14 ?_
  refine su_iconst X (v := 5) (by decide) dX1_init_15 ?_
  refine su_newaI X (N' := 5) (fun q1 => [(h0, .inr (1, [.int 0, .int 0, .null, .null, .int 0, .int 0, .int 0, .int 0])), (q1, .inl (cy 8, 5, .inl (fun _ => 0)))]) wA_I (by decide) (by decide) (by decide) (Nat.le_of_ble_eq_true rfl) (Nat.le_of_ble_eq_true rfl) (fun _ => rfl) dX1_init_16 (fun q1 => ?_)
  refine su_putF X hin 0 (k := 2) [(h0, .inr (1, [.int 0, .int 0, .ref q1, .null, .int 0, .int 0, .int 0, .int 0])), (q1, .inl (cy 8, 5, .inl (fun _ => 0)))] sw_cl1 rfl (by decide) rfl rfl rfl rfl rfl (Nat.le_of_ble_eq_true rfl) rfl wf_X1_18 dX1_init_18 ?_
  refine su_aload_n X 0 rfl rfl dX1_init_21 ?_
  refine su_iconst X (v := 5) (by decide) dX1_init_22 ?_
  refine su_newaI X (N' := 5) (fun q2 => [(h0, .inr (1, [.int 0, .int 0, .ref q1, .null, .int 0, .int 0, .int 0, .int 0])), (q1, .inl (cy 8, 5, .inl (fun _ => 0))), (q2, .inl (cy 8, 5, .inl (fun _ => 0)))]) wA_I (by decide) (by decide) (by decide) (Nat.le_of_ble_eq_true rfl) (Nat.le_of_ble_eq_true rfl) (fun _ => rfl) dX1_init_23 (fun q2 => ?_)
  refine su_putF X hin 0 (k := 3) [(h0, .inr (1, [.int 0, .int 0, .ref q1, .ref q2, .int 0, .int 0, .int 0, .int 0])), (q1, .inl (cy 8, 5, .inl (fun _ => 0))), (q2, .inl (cy 8, 5, .inl (fun _ => 0)))] sw_cl1 rfl (by decide) rfl rfl rfl rfl rfl (Nat.le_of_ble_eq_true rfl) rfl wf_X1_22 dX1_init_25 ?_
  refine su_aload_n X 0 rfl rfl dX1_init_28 ?_
  refine su_iconst X (v := 0) (by decide) dX1_init_29 ?_
  refine su_put X 0 (k := 4) [(h0, .inr (1, [.int 0, .int 0, .ref q1, .ref q2, .int 0, .int 0, .int 0, .int 0])), (q1, .inl (cy 8, 5, .inl (fun _ => 0))), (q2, .inl (cy 8, 5, .inl (fun _ => 0)))] sw_cl1 rfl (by decide) rfl rfl rfl rfl (Nat.le_of_ble_eq_true rfl) rfl wf_X1_25 dX1_init_30 ?_
  refine su_aload_n X 0 rfl rfl dX1_init_33 ?_
  refine su_bipush X (v := (-9)) (by decide) dX1_init_34 ?_
  refine su_put X 0 (k := 5) [(h0, .inr (1, [.int 0, .int 0, .ref q1, .ref q2, .int 0, .int (-9), .int 0, .int 0])), (q1, .inl (cy 8, 5, .inl (fun _ => 0))), (q2, .inl (cy 8, 5, .inl (fun _ => 0)))] sw_cl1 rfl (by decide) rfl rfl rfl rfl (Nat.le_of_ble_eq_true rfl) rfl wf_X1_28 dX1_init_36 ?_
  refine su_aload_n X 0 rfl rfl dX1_init_39 ?_
  refine su_iconst X (v := 0) (by decide) dX1_init_40 ?_
  refine su_put X 0 (k := 6) [(h0, .inr (1, [.int 0, .int 0, .ref q1, .ref q2, .int 0, .int (-9), .int 0, .int 0])), (q1, .inl (cy 8, 5, .inl (fun _ => 0))), (q2, .inl (cy 8, 5, .inl (fun _ => 0)))] sw_cl1 rfl (by decide) rfl rfl rfl rfl (Nat.le_of_ble_eq_true rfl) rfl wf_X1_31 dX1_init_41 ?_
  refine su_aload_n X 0 rfl rfl dX1_init_44 ?_
  refine su_iconst X (v := 0) (by decide) dX1_init_45 ?_
  refine su_put X 0 (k := 7) [(h0, .inr (1, [.int 0, .int 0, .ref q1, .ref q2, .int 0, .int (-9), .int 0, .int 0])), (q1, .inl (cy 8, 5, .inl (fun _ => 0))), (q2, .inl (cy 8, 5, .inl (fun _ => 0)))] sw_cl1 rfl (by decide) rfl rfl rfl rfl (Nat.le_of_ble_eq_true rfl) rfl wf_X1_34 dX1_init_46 ?_
  exact su_vret X (fun i => [0, q1, q2].getD i 0) (fun H h => h) (fun B h => h) hr hlk dX1_init_49
theorem dX2_init_0 : decode cX2_init 0 = .ok (.aload_n 0, 1) := by decide +kernel
theorem dX2_init_1 : decode cX2_init 1 = .ok (.invokespecial 3, 3) := by decide +kernel
theorem dX2_init_4 : decode cX2_init 4 = .ok (.aload_n 0, 1) := by decide +kernel
theorem dX2_init_5 : decode cX2_init 5 = .ok (.bipush 6, 2) := by decide +kernel
theorem dX2_init_7 : decode cX2_init 7 = .ok (.newarray .int, 2) := by decide +kernel
theorem dX2_init_9 : decode cX2_init 9 = .ok (.putfield 9, 3) := by decide +kernel
theorem dX2_init_12 : decode cX2_init 12 = .ok (.aload_n 0, 1) := by decide +kernel
theorem dX2_init_13 : decode cX2_init 13 = .ok (.bipush 6, 2) := by decide +kernel
theorem dX2_init_15 : decode cX2_init 15 = .ok (.newarray .int, 2) := by decide +kernel
theorem dX2_init_17 : decode cX2_init 17 = .ok (.putfield 15, 3) := by decide +kernel
theorem dX2_init_20 : decode cX2_init 20 = .ok (.aload_n 0, 1) := by decide +kernel
theorem dX2_init_21 : decode cX2_init 21 = .ok (.iconst 0, 1) := by decide +kernel
theorem dX2_init_22 : decode cX2_init 22 = .ok (.putfield 18, 3) := by decide +kernel
theorem dX2_init_25 : decode cX2_init 25 = .ok (.aload_n 0, 1) := by decide +kernel
theorem dX2_init_26 : decode cX2_init 26 = .ok (.iconst 0, 1) := by decide +kernel
theorem dX2_init_27 : decode cX2_init 27 = .ok (.putfield 22, 3) := by decide +kernel
theorem dX2_init_30 : decode cX2_init 30 = .ok (.return_, 1) := by decide +kernel
set_option maxHeartbeats 4000000 in
set_option maxRecDepth 100000 in
theorem c_X2_init (h0 : Nat) : su_C yX2_init (.code yX2_init cX2_init 1 none) 1 2 12 [.ref h0] (fun cy => [(h0, .inr (2, [.null, .null, .int 0, .int 0]))]) (fun cy u => [(h0, .inr (2, [.ref (u 1), .ref (u 2), .int 0, .int 0])), ((u 1), .inl (cy 8, 6, .inl (fun _ => 0))), ((u 2), .inl (cy 8, 6, .inl (fun _ => 0)))]) := by
  refine su_ent RX2 [(0, .ref h0)] (by decide) rfl (Nat.le_of_ble_eq_true rfl) rfl ?_
  intro p l e s m args below meth c D cy X hr hlk hin
  refine su_aload_n X 0 rfl rfl dX2_init_0 ?_
  refine su_oinit X wm_X2_3 wo_i wo_c (Nat.le_of_ble_eq_true rfl) (Nat.le_of_ble_eq_true rfl) dX2_init_1 ?_
  refine su_aload_n X 0 rfl rfl dX2_init_4 ?_
  refine su_bipush X (v := 6) (by decide) dX2_init_5 ?_
  refine su_newaI X (N' := 6) (fun q1 => [(h0, .inr (2, [.null, .null, .int 0, .int 0])), (q1, .inl (cy 8, 6, .inl (fun _ => 0)))]) wA_I (by decide) (by decide) (by decide) (Nat.le_of_ble_eq_true rfl) (Nat.le_of_ble_eq_true rfl) (fun _ => rfl) dX2_init_7 (fun q1 => ?_)
  refine su_putF X hin 0 (k := 0) [(h0, .inr (2, [.ref q1, .null, .int 0, .int 0])), (q1, .inl (cy 8, 6, .inl (fun _ => 0)))] sw_cl2 rfl (by decide) rfl rfl rfl rfl rfl (Nat.le_of_ble_eq_true rfl) rfl wf_X2_9 dX2_init_9 ?_
  refine su_aload_n X 0 rfl rfl dX2_init_12 ?_
  refine su_bipush X (v := 6) (by decide) dX2_init_13 ?_
  refine su_newaI X (N' := 6) (fun q2 => [(h0, .inr (2, [.ref q1, .null, .int 0, .int 0])), (q1, .inl (cy 8, 6, .inl (fun _ => 0))), (q2, .inl (cy 8, 6, .inl (fun _ => 0)))]) wA_I (by decide) (by decide) (by decide) (Nat.le_of_ble_eq_true rfl) (Nat.le_of_ble_eq_true rfl) (fun _ => rfl) dX2_init_15 (fun q2 => ?_)
  refine su_putF X hin 0 (k := 1) [(h0, .inr (2, [.ref q1, .ref q2, .int 0, .int 0])), (q1, .inl (cy 8, 6, .inl (fun _ => 0))), (q2, .inl (cy 8, 6, .inl (fun _ => 0)))] sw_cl2 rfl (by decide) rfl rfl rfl rfl rfl (Nat.le_of_ble_eq_true rfl) rfl wf_X2_15 dX2_init_17 ?_
  refine su_aload_n X 0 rfl rfl dX2_init_20 ?_
  refine su_iconst X (v := 0) (by decide) dX2_init_21 ?_
  refine su_put X 0 (k := 2) [(h0, .inr (2, [.ref q1, .ref q2, .int 0, .int 0])), (q1, .inl (cy 8, 6, .inl (fun _ => 0))), (q2, .inl (cy 8, 6, .inl (fun _ => 0)))] sw_cl2 rfl (by decide) rfl rfl rfl rfl (Nat.le_of_ble_eq_true rfl) rfl wf_X2_18 dX2_init_22 ?_
  refine su_aload_n X 0 rfl rfl dX2_init_25 ?_
  refine su_iconst X (v := 0) (by decide) dX2_init_26 ?_
  refine su_put X 0 (k := 3) [(h0, .inr (2, [.ref q1, .ref q2, .int 0, .int 0])), (q1, .inl (cy 8, 6, .inl (fun _ => 0))), (q2, .inl (cy 8, 6, .inl (fun _ => 0)))] sw_cl2 rfl (by decide) rfl rfl rfl rfl (Nat.le_of_ble_eq_true rfl) rfl wf_X2_22 dX2_init_27 ?_
  exact su_vret X (fun i => [0, q1, q2].getD i 0) (fun H h => h) (fun B h => h) hr hlk dX2_init_30
theorem dX0_init_0 : decode cX0_init 0 = .ok (.aload_n 0, 1) := by decide +kernel
theorem dX0_init_1 : decode cX0_init 1 = .ok (.invokespecial 3, 3) := by decide +kernel
theorem dX0_init_4 : decode cX0_init 4 = .ok (.aload_n 0, 1) := by decide +kernel
theorem dX0_init_5 : decode cX0_init 5 = .ok (.iconst 0, 1) := by decide +kernel
theorem dX0_init_6 : decode cX0_init 6 = .ok (.putfield 9, 3) := by decide +kernel
theorem dX0_init_9 : decode cX0_init 9 = .ok (.aload_n 0, 1) := by decide +kernel
theorem dX0_init_10 : decode cX0_init 10 = .ok (.bipush (-9), 2) := by decide +kernel
theorem dX0_init_12 : decode cX0_init 12 = .ok (.putfield 15, 3) := by decide +kernel
theorem dX0_init_15 : decode cX0_init 15 = .ok (.aload_n 0, 1) := by decide +kernel
theorem dX0_init_16 : decode cX0_init 16 = .ok (.iconst 0, 1) := by decide +kernel
theorem dX0_init_17 : decode cX0_init 17 = .ok (.putfield 18, 3) := by decide +kernel
theorem dX0_init_20 : decode cX0_init 20 = .ok (.aload_n 0, 1) := by decide +kernel
theorem dX0_init_21 : decode cX0_init 21 = .ok (.iconst 0, 1) := by decide +kernel
theorem dX0_init_22 : decode cX0_init 22 = .ok (.putfield 21, 3) := by decide +kernel
theorem dX0_init_25 : decode cX0_init 25 = .ok (.aload_n 0, 1) := by decide +kernel
theorem dX0_init_26 : decode cX0_init 26 = .ok (.iconst 0, 1) := by decide +kernel
theorem dX0_init_27 : decode cX0_init 27 = .ok (.putfield 24, 3) := by decide +kernel
theorem dX0_init_30 : decode cX0_init 30 = .ok (.aload_n 0, 1) := by decide +kernel
theorem dX0_init_31 : decode cX0_init 31 = .ok (.iconst 0, 1) := by decide +kernel
theorem dX0_init_32 : decode cX0_init 32 = .ok (.putfield 27, 3) := by decide +kernel
theorem dX0_init_35 : decode cX0_init 35 = .ok (.aload_n 0, 1) := by decide +kernel
theorem dX0_init_36 : decode cX0_init 36 = .ok (.bipush 6, 2) := by decide +kernel
theorem dX0_init_38 : decode cX0_init 38 = .ok (.newarray .int, 2) := by decide +kernel
theorem dX0_init_40 : decode cX0_init 40 = .ok (.putfield 30, 3) := by decide +kernel
theorem dX0_init_43 : decode cX0_init 43 = .ok (.return_, 1) := by decide +kernel
set_option maxHeartbeats 4000000 in
set_option maxRecDepth 100000 in
theorem c_X0_init (h0 : Nat) : su_C yX0_init (.code yX0_init cX0_init 1 none) 1 1 6 [.ref h0] (fun cy => [(h0, .inr (0, [.int 0, .int 0, .int 0, .int 0, .int 0, .int 0, .null]))]) (fun cy u => [(h0, .inr (0, [.int 0, .int (-9), .int 0, .int 0, .int 0, .int 0, .ref (u 1)])), ((u 1), .inl (cy 8, 6, .inl (fun _ => 0)))]) := by
  refine su_ent RX0 [(0, .ref h0)] (by decide) rfl (Nat.le_of_ble_eq_true rfl) rfl ?_
  intro p l e s m args below meth c D cy X hr hlk hin
  refine su_aload_n X 0 rfl rfl dX0_init_0 ?_
  refine su_oinit X wm_X0_3 wo_i wo_c (Nat.le_of_ble_eq_true rfl) (Nat.le_of_ble_eq_true rfl) dX0_init_1 ?_
  refine su_aload_n X 0 rfl rfl dX0_init_4 ?_
  refine su_iconst X (v := 0) (by decide) dX0_init_5 ?_
  refine su_put X 0 (k := 0) [(h0, .inr (0, [.int 0, .int 0, .int 0, .int 0, .int 0, .int 0, .null]))] sw_cl0 rfl (by decide) rfl rfl rfl rfl (Nat.le_of_ble_eq_true rfl) rfl wf_X0_9 dX0_init_6 ?_
  refine su_aload_n X 0 rfl rfl dX0_init_9 ?_
  refine su_bipush X (v := (-9)) (by decide) dX0_init_10 ?_
  refine su_put X 0 (k := 1) [(h0, .inr (0, [.int 0, .int (-9), .int 0, .int 0, .int 0, .int 0, .null]))] sw_cl0 rfl (by decide) rfl rfl rfl rfl (Nat.le_of_ble_eq_true rfl) rfl wf_X0_15 dX0_init_12 ?_
  refine su_aload_n X 0 rfl rfl dX0_init_15 ?_
  refine su_iconst X (v := 0) (by decide) dX0_init_16 ?_
  refine su_put X 0 (k := 2) [(h0, .inr (0, [.int 0, .int (-9), .int 0, .int 0, .int 0, .int 0, .null]))] sw_cl0 rfl (by decide) rfl rfl rfl rfl (Nat.le_of_ble_eq_true rfl) rfl wf_X0_18 dX0_init_17 ?_
  refine su_aload_n X 0 rfl rfl dX0_init_20 ?_
  refine su_iconst X (v := 0) (by decide) dX0_init_21 ?_
  refine su_put X 0 (k := 3) [(h0, .inr (0, [.int 0, .int (-9), .int 0, .int 0, .int 0, .int 0, .null]))] sw_cl0 rfl (by decide) rfl rfl rfl rfl (Nat.le_of_ble_eq_true rfl) rfl wf_X0_21 dX0_init_22 ?_
  refine su_aload_n X 0 rfl rfl dX0_init_25 ?_
  refine su_iconst X (v := 0) (by decide) dX0_init_26 ?_
  refine su_put X 0 (k := 4) [(h0, .inr (0, [.int 0, .int (-9), .int 0, .int 0, .int 0, .int 0, .null]))] sw_cl0 rfl (by decide) rfl rfl rfl rfl (Nat.le_of_ble_eq_true rfl) rfl wf_X0_24 dX0_init_27 ?_
  refine su_aload_n X 0 rfl rfl dX0_init_30 ?_
  refine su_iconst X (v := 0) (by decide) dX0_init_31 ?_
  refine su_put X 0 (k := 5) [(h0, .inr (0, [.int 0, .int (-9), .int 0, .int 0, .int 0, .int 0, .null]))] sw_cl0 rfl (by decide) rfl rfl rfl rfl (Nat.le_of_ble_eq_true rfl) rfl wf_X0_27 dX0_init_32 ?_
  refine su_aload_n X 0 rfl rfl dX0_init_35 ?_
  refine su_bipush X (v := 6) (by decide) dX0_init_36 ?_
  refine su_newaI X (N' := 6) (fun q1 => [(h0, .inr (0, [.int 0, .int (-9), .int 0, .int 0, .int 0, .int 0, .null])), (q1, .inl (cy 8, 6, .inl (fun _ => 0)))]) wA_I (by decide) (by decide) (by decide) (Nat.le_of_ble_eq_true rfl) (Nat.le_of_ble_eq_true rfl) (fun _ => rfl) dX0_init_38 (fun q1 => ?_)
  refine su_putF X hin 0 (k := 6) [(h0, .inr (0, [.int 0, .int (-9), .int 0, .int 0, .int 0, .int 0, .ref q1])), (q1, .inl (cy 8, 6, .inl (fun _ => 0)))] sw_cl0 rfl (by decide) rfl rfl rfl rfl rfl (Nat.le_of_ble_eq_true rfl) rfl wf_X0_30 dX0_init_40 ?_
  exact su_vret X (fun i => [0, q1].getD i 0) (fun H h => h) (fun B h => h) hr hlk dX0_init_43

set_option maxHeartbeats 4000000 in
set_option maxRecDepth 100000 in
theorem c_J7_fill_53178_6 (a : Nat) (f : Nat → Int32) : su_C yJ7_fill_53178 (.code yJ7_fill_53178 cJ7_fill_53178 4 none) 1 0 0 [.ref a, .int (-1)] (fun cy => [(a, .inl (cy 8, 6, .inl f))]) (fun cy _ => [(a, .inl (cy 8, 6, .inl (upd (upd (upd (upd (upd (upd f 0 (-1)) 1 (-1)) 2 (-1)) 3 (-1)) 4 (-1)) 5 (-1))))]) := by
  refine su_ent RJ7 [(0, .ref a), (1, .int (-1))] (by decide) rfl (Nat.le_of_ble_eq_true rfl) rfl ?_
  intro p l e s m args below meth c D cy X hr hlk hin
  refine su_iconst X (v := 0) (by decide) dJ7_fill_53178_0 ?_
  refine su_istore_n X [(2, .int 0), (0, .ref a), (1, .int (-1))] rfl (by decide) rfl dJ7_fill_53178_1 ?_
  refine su_aload_n X 1 rfl rfl dJ7_fill_53178_2 ?_
  refine su_alen X 0 rfl (v := 6) (by decide) dJ7_fill_53178_3 ?_
  refine su_istore_n X [(3, .int 6), (2, .int 0), (0, .ref a), (1, .int (-1))] rfl (by decide) rfl dJ7_fill_53178_4 ?_
  refine su_iload_n X 1 rfl rfl dJ7_fill_53178_5 ?_
  refine su_iload_n X 0 rfl rfl dJ7_fill_53178_6 ?_
  refine su_ge_f X 20 (by decide) (by decide) dJ7_fill_53178_7 ?_
  refine su_aload_n X 2 rfl rfl dJ7_fill_53178_10 ?_
  refine su_iload_n X 1 rfl rfl dJ7_fill_53178_11 ?_
  refine su_iload_n X 3 rfl rfl dJ7_fill_53178_12 ?_
  refine su_iast X 0 (i := 0) [(a, .inl (cy 8, 6, .inl (upd f 0 (-1))))] rfl (by unfold vp_in; decide) rfl dJ7_fill_53178_13 ?_
  refine su_iinc X 1 1 [(2, .int 1), (3, .int 6), (0, .ref a), (1, .int (-1))] rfl (by decide) (by decide) rfl dJ7_fill_53178_14 ?_
  refine su_goto X 5 (by decide) dJ7_fill_53178_17 ?_
  refine su_iload_n X 0 rfl rfl dJ7_fill_53178_5 ?_
  refine su_iload_n X 1 rfl rfl dJ7_fill_53178_6 ?_
  refine su_ge_f X 20 (by decide) (by decide) dJ7_fill_53178_7 ?_
  refine su_aload_n X 2 rfl rfl dJ7_fill_53178_10 ?_
  refine su_iload_n X 0 rfl rfl dJ7_fill_53178_11 ?_
  refine su_iload_n X 3 rfl rfl dJ7_fill_53178_12 ?_
  refine su_iast X 0 (i := 1) [(a, .inl (cy 8, 6, .inl (upd (upd f 0 (-1)) 1 (-1))))] rfl (by unfold vp_in; decide) rfl dJ7_fill_53178_13 ?_
  refine su_iinc X 0 2 [(2, .int 2), (3, .int 6), (0, .ref a), (1, .int (-1))] rfl (by decide) (by decide) rfl dJ7_fill_53178_14 ?_
  refine su_goto X 5 (by decide) dJ7_fill_53178_17 ?_
  refine su_iload_n X 0 rfl rfl dJ7_fill_53178_5 ?_
  refine su_iload_n X 1 rfl rfl dJ7_fill_53178_6 ?_
  refine su_ge_f X 20 (by decide) (by decide) dJ7_fill_53178_7 ?_
  refine su_aload_n X 2 rfl rfl dJ7_fill_53178_10 ?_
  refine su_iload_n X 0 rfl rfl dJ7_fill_53178_11 ?_
  refine su_iload_n X 3 rfl rfl dJ7_fill_53178_12 ?_
  refine su_iast X 0 (i := 2) [(a, .inl (cy 8, 6, .inl (upd (upd (upd f 0 (-1)) 1 (-1)) 2 (-1))))] rfl (by unfold vp_in; decide) rfl dJ7_fill_53178_13 ?_
  refine su_iinc X 0 3 [(2, .int 3), (3, .int 6), (0, .ref a), (1, .int (-1))] rfl (by decide) (by decide) rfl dJ7_fill_53178_14 ?_
  refine su_goto X 5 (by decide) dJ7_fill_53178_17 ?_
  refine su_iload_n X 0 rfl rfl dJ7_fill_53178_5 ?_
  refine su_iload_n X 1 rfl rfl dJ7_fill_53178_6 ?_
  refine su_ge_f X 20 (by decide) (by decide) dJ7_fill_53178_7 ?_
  refine su_aload_n X 2 rfl rfl dJ7_fill_53178_10 ?_
  refine su_iload_n X 0 rfl rfl dJ7_fill_53178_11 ?_
  refine su_iload_n X 3 rfl rfl dJ7_fill_53178_12 ?_
  refine su_iast X 0 (i := 3) [(a, .inl (cy 8, 6, .inl (upd (upd (upd (upd f 0 (-1)) 1 (-1)) 2 (-1)) 3 (-1))))] rfl (by unfold vp_in; decide) rfl dJ7_fill_53178_13 ?_
  refine su_iinc X 0 4 [(2, .int 4), (3, .int 6), (0, .ref a), (1, .int (-1))] rfl (by decide) (by decide) rfl dJ7_fill_53178_14 ?_
  refine su_goto X 5 (by decide) dJ7_fill_53178_17 ?_
  refine su_iload_n X 0 rfl rfl dJ7_fill_53178_5 ?_
  refine su_iload_n X 1 rfl rfl dJ7_fill_53178_6 ?_
  refine su_ge_f X 20 (by decide) (by decide) dJ7_fill_53178_7 ?_
  refine su_aload_n X 2 rfl rfl dJ7_fill_53178_10 ?_
  refine su_iload_n X 0 rfl rfl dJ7_fill_53178_11 ?_
  refine su_iload_n X 3 rfl rfl dJ7_fill_53178_12 ?_
  refine su_iast X 0 (i := 4) [(a, .inl (cy 8, 6, .inl (upd (upd (upd (upd (upd f 0 (-1)) 1 (-1)) 2 (-1)) 3 (-1)) 4 (-1))))] rfl (by unfold vp_in; decide) rfl dJ7_fill_53178_13 ?_
  refine su_iinc X 0 5 [(2, .int 5), (3, .int 6), (0, .ref a), (1, .int (-1))] rfl (by decide) (by decide) rfl dJ7_fill_53178_14 ?_
  refine su_goto X 5 (by decide) dJ7_fill_53178_17 ?_
  refine su_iload_n X 0 rfl rfl dJ7_fill_53178_5 ?_
  refine su_iload_n X 1 rfl rfl dJ7_fill_53178_6 ?_
  refine su_ge_f X 20 (by decide) (by decide) dJ7_fill_53178_7 ?_
  refine su_aload_n X 2 rfl rfl dJ7_fill_53178_10 ?_
  refine su_iload_n X 0 rfl rfl dJ7_fill_53178_11 ?_
  refine su_iload_n X 3 rfl rfl dJ7_fill_53178_12 ?_
  refine su_iast X 0 (i := 5) [(a, .inl (cy 8, 6, .inl (upd (upd (upd (upd (upd (upd f 0 (-1)) 1 (-1)) 2 (-1)) 3 (-1)) 4 (-1)) 5 (-1))))] rfl (by unfold vp_in; decide) rfl dJ7_fill_53178_13 ?_
  refine su_iinc X 0 6 [(2, .int 6), (3, .int 6), (0, .ref a), (1, .int (-1))] rfl (by decide) (by decide) rfl dJ7_fill_53178_14 ?_
  refine su_goto X 5 (by decide) dJ7_fill_53178_17 ?_
  refine su_iload_n X 0 rfl rfl dJ7_fill_53178_5 ?_
  refine su_iload_n X 1 rfl rfl dJ7_fill_53178_6 ?_
  refine su_ge_t X 20 (by decide) (by decide) dJ7_fill_53178_7 ?_
  exact su_vret X (fun i => 0) (fun H h => h) (fun B h => h) hr hlk dJ7_fill_53178_20
set_option maxHeartbeats 4000000 in
set_option maxRecDepth 100000 in
theorem c_J7_fill_53178_4 (a : Nat) (f : Nat → Int32) : su_C yJ7_fill_53178 (.code yJ7_fill_53178 cJ7_fill_53178 4 none) 1 0 0 [.ref a, .int (-1)] (fun cy => [(a, .inl (cy 8, 4, .inl f))]) (fun cy _ => [(a, .inl (cy 8, 4, .inl (upd (upd (upd (upd f 0 (-1)) 1 (-1)) 2 (-1)) 3 (-1))))]) := by
  refine su_ent RJ7 [(0, .ref a), (1, .int (-1))] (by decide) rfl (Nat.le_of_ble_eq_true rfl) rfl ?_
  intro p l e s m args below meth c D cy X hr hlk hin
  refine su_iconst X (v := 0) (by decide) dJ7_fill_53178_0 ?_
  refine su_istore_n X [(2, .int 0), (0, .ref a), (1, .int (-1))] rfl (by decide) rfl dJ7_fill_53178_1 ?_
  refine su_aload_n X 1 rfl rfl dJ7_fill_53178_2 ?_
  refine su_alen X 0 rfl (v := 4) (by decide) dJ7_fill_53178_3 ?_
  refine su_istore_n X [(3, .int 4), (2, .int 0), (0, .ref a), (1, .int (-1))] rfl (by decide) rfl dJ7_fill_53178_4 ?_
  refine su_iload_n X 1 rfl rfl dJ7_fill_53178_5 ?_
  refine su_iload_n X 0 rfl rfl dJ7_fill_53178_6 ?_
  refine su_ge_f X 20 (by decide) (by decide) dJ7_fill_53178_7 ?_
  refine su_aload_n X 2 rfl rfl dJ7_fill_53178_10 ?_
  refine su_iload_n X 1 rfl rfl dJ7_fill_53178_11 ?_
  refine su_iload_n X 3 rfl rfl dJ7_fill_53178_12 ?_
  refine su_iast X 0 (i := 0) [(a, .inl (cy 8, 4, .inl (upd f 0 (-1))))] rfl (by unfold vp_in; decide) rfl dJ7_fill_53178_13 ?_
  refine su_iinc X 1 1 [(2, .int 1), (3, .int 4), (0, .ref a), (1, .int (-1))] rfl (by decide) (by decide) rfl dJ7_fill_53178_14 ?_
  refine su_goto X 5 (by decide) dJ7_fill_53178_17 ?_
  refine su_iload_n X 0 rfl rfl dJ7_fill_53178_5 ?_
  refine su_iload_n X 1 rfl rfl dJ7_fill_53178_6 ?_
  refine su_ge_f X 20 (by decide) (by decide) dJ7_fill_53178_7 ?_
  refine su_aload_n X 2 rfl rfl dJ7_fill_53178_10 ?_
  refine su_iload_n X 0 rfl rfl dJ7_fill_53178_11 ?_
  refine su_iload_n X 3 rfl rfl dJ7_fill_53178_12 ?_
  refine su_iast X 0 (i := 1) [(a, .inl (cy 8, 4, .inl (upd (upd f 0 (-1)) 1 (-1))))] rfl (by unfold vp_in; decide) rfl dJ7_fill_53178_13 ?_
  refine su_iinc X 0 2 [(2, .int 2), (3, .int 4), (0, .ref a), (1, .int (-1))] rfl (by decide) (by decide) rfl dJ7_fill_53178_14 ?_
  refine su_goto X 5 (by decide) dJ7_fill_53178_17 ?_
  refine su_iload_n X 0 rfl rfl dJ7_fill_53178_5 ?_
  refine su_iload_n X 1 rfl rfl dJ7_fill_53178_6 ?_
  refine su_ge_f X 20 (by decide) (by decide) dJ7_fill_53178_7 ?_
  refine su_aload_n X 2 rfl rfl dJ7_fill_53178_10 ?_
  refine su_iload_n X 0 rfl rfl dJ7_fill_53178_11 ?_
  refine su_iload_n X 3 rfl rfl dJ7_fill_53178_12 ?_
  refine su_iast X 0 (i := 2) [(a, .inl (cy 8, 4, .inl (upd (upd (upd f 0 (-1)) 1 (-1)) 2 (-1))))] rfl (by unfold vp_in; decide) rfl dJ7_fill_53178_13 ?_
  refine su_iinc X 0 3 [(2, .int 3), (3, .int 4), (0, .ref a), (1, .int (-1))] rfl (by decide) (by decide) rfl dJ7_fill_53178_14 ?_
  refine su_goto X 5 (by decide) dJ7_fill_53178_17 ?_
  refine su_iload_n X 0 rfl rfl dJ7_fill_53178_5 ?_
  refine su_iload_n X 1 rfl rfl dJ7_fill_53178_6 ?_
  refine su_ge_f X 20 (by decide) (by decide) dJ7_fill_53178_7 ?_
  refine su_aload_n X 2 rfl rfl dJ7_fill_53178_10 ?_
  refine su_iload_n X 0 rfl rfl dJ7_fill_53178_11 ?_
  refine su_iload_n X 3 rfl rfl dJ7_fill_53178_12 ?_
  refine su_iast X 0 (i := 3) [(a, .inl (cy 8, 4, .inl (upd (upd (upd (upd f 0 (-1)) 1 (-1)) 2 (-1)) 3 (-1))))] rfl (by unfold vp_in; decide) rfl dJ7_fill_53178_13 ?_
  refine su_iinc X 0 4 [(2, .int 4), (3, .int 4), (0, .ref a), (1, .int (-1))] rfl (by decide) (by decide) rfl dJ7_fill_53178_14 ?_
  refine su_goto X 5 (by decide) dJ7_fill_53178_17 ?_
  refine su_iload_n X 0 rfl rfl dJ7_fill_53178_5 ?_
  refine su_iload_n X 1 rfl rfl dJ7_fill_53178_6 ?_
  refine su_ge_t X 20 (by decide) (by decide) dJ7_fill_53178_7 ?_
  exact su_vret X (fun i => 0) (fun H h => h) (fun B h => h) hr hlk dJ7_fill_53178_20
