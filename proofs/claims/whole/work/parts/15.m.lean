theorem dX5_gate_0 : decode cX5_gate 0 = .ok (.aload_n 0, 1) := by decide +kernel
theorem dX5_gate_1 : decode cX5_gate 1 = .ok (.getfield 29, 3) := by decide +kernel
theorem dX5_gate_4 : decode cX5_gate 4 = .ok (.iload_n 1, 1) := by decide +kernel
theorem dX5_gate_5 : decode cX5_gate 5 = .ok (.invokevirtual 137, 3) := by decide +kernel
theorem dX5_gate_8 : decode cX5_gate 8 = .ok (.ifCond .ne 5, 3) := by decide +kernel
theorem dX5_gate_11 : decode cX5_gate 11 = .ok (.iconst (-1), 1) := by decide +kernel
theorem dX5_gate_12 : decode cX5_gate 12 = .ok (.ireturn, 1) := by decide +kernel
theorem dX5_gate_13 : decode cX5_gate 13 = .ok (.aload_n 0, 1) := by decide +kernel
theorem dX5_gate_14 : decode cX5_gate 14 = .ok (.getfield 29, 3) := by decide +kernel
theorem dX5_gate_17 : decode cX5_gate 17 = .ok (.getfield 150, 3) := by decide +kernel
theorem dX5_gate_20 : decode cX5_gate 20 = .ok (.ifCond .le 6, 3) := by decide +kernel
theorem dX5_gate_23 : decode cX5_gate 23 = .ok (.bipush (-4), 2) := by decide +kernel
theorem dX5_gate_25 : decode cX5_gate 25 = .ok (.ireturn, 1) := by decide +kernel
theorem dX5_gate_26 : decode cX5_gate 26 = .ok (.aload_n 0, 1) := by decide +kernel
theorem dX5_gate_27 : decode cX5_gate 27 = .ok (.getfield 29, 3) := by decide +kernel
theorem dX5_gate_30 : decode cX5_gate 30 = .ok (.getfield 153, 3) := by decide +kernel
theorem dX5_gate_33 : decode cX5_gate 33 = .ok (.iload_n 1, 1) := by decide +kernel
theorem dX5_gate_34 : decode cX5_gate 34 = .ok (.iaload, 1) := by decide +kernel
theorem dX5_gate_35 : decode cX5_gate 35 = .ok (.istore_n 2, 1) := by decide +kernel
theorem dX5_gate_36 : decode cX5_gate 36 = .ok (.aload_n 0, 1) := by decide +kernel
theorem dX5_gate_37 : decode cX5_gate 37 = .ok (.getfield 29, 3) := by decide +kernel
theorem dX5_gate_40 : decode cX5_gate 40 = .ok (.getfield 153, 3) := by decide +kernel
theorem dX5_gate_43 : decode cX5_gate 43 = .ok (.iload_n 1, 1) := by decide +kernel
theorem dX5_gate_44 : decode cX5_gate 44 = .ok (.iconst 1, 1) := by decide +kernel
theorem dX5_gate_45 : decode cX5_gate 45 = .ok (.iload_n 2, 1) := by decide +kernel
theorem dX5_gate_46 : decode cX5_gate 46 = .ok (.isub, 1) := by decide +kernel
theorem dX5_gate_47 : decode cX5_gate 47 = .ok (.iastore, 1) := by decide +kernel
theorem dX5_gate_48 : decode cX5_gate 48 = .ok (.iload_n 2, 1) := by decide +kernel
theorem dX5_gate_49 : decode cX5_gate 49 = .ok (.ireturn, 1) := by decide +kernel
def j_X5_gate (F : Nat) (a1 : Int32) (st : sw_St) : Option (Int32 × sw_St) :=
bo (j_X4_has F 15 a1 st) (fun (r2 : Int32) =>
(if r2 = 0 then (
 some (((-1) : Int32), st))
else (
 (if (st.1 15 14) ≤ 0 then (
  bnd a1 6 (
  nm (st.1 18 (a1 : Int32).toNatClampNeg) (fun (x6 : Int32) =>
  bnd a1 6 (
  nm (sw_setC st 18 (a1 : Int32).toNatClampNeg (1 - x6)) (fun (s8 : sw_St) =>
  some ((x6 : Int32), s8))))))
 else (
  some (((-4) : Int32), st))))))
set_option maxHeartbeats 4000000 in
set_option maxRecDepth 100000 in
theorem c_X5_gate (F : Nat) (a1 : Int32) (st : sw_St) {r : Int32} {st1 : sw_St} (h : j_X5_gate F a1 st = some (r, st1)) : sw_CI yX5_gate (.code yX5_gate cX5_gate 3 (some .int)) 2 (fun g => [.ref (g.1 0), .int a1]) st r st1 := by
  refine sw_entI RX5 (fun g => [(0, .ref (g.1 0)), (1, .int a1)]) (by decide) rfl (fun _ => Nat.le_of_ble_eq_true rfl) (fun _ => rfl) ?_
  intro p l e s m args below meth c g X hr hlk
  unfold j_X5_gate at h
  refine sw_aload_n X 0 rfl rfl dX5_gate_0 ?_
  refine sw_getR X sw_cl5 (show sw_kd 0 = 5 from rfl) (k := 4) rfl (by decide) (o1 := 15) rfl wf_X5_29 dX5_gate_1 ?_
  refine sw_iload_n X 1 rfl rfl dX5_gate_4 ?_
  obtain ⟨r2, c1, h⟩ := bo_E h
  refine sw_callVI X (o := 15) (As := (fun g => [.int a1])) sw_cl4 (show sw_kd 15 = 4 from rfl) ws_X4_has (by omega) (c_X4_has F (show sw_kd 15 = 4 from rfl) a1 st c1) rfl rfl (Nat.le_of_ble_eq_true rfl) wm_X5_137 dX5_gate_5 ?_
  refine sw_if_ne X 13 (by decide) dX5_gate_8 (fun q3 => ?_) (fun q3 => ?_)
  · have h := ite_F h q3
    refine sw_aload_n X 0 rfl rfl dX5_gate_13 ?_
    refine sw_getR X sw_cl5 (show sw_kd 0 = 5 from rfl) (k := 4) rfl (by decide) (o1 := 15) rfl wf_X5_29 dX5_gate_14 ?_
    refine sw_getI X sw_cl4 (show sw_kd 15 = 4 from rfl) (k := 14) rfl (by decide) wf_X5_150 dX5_gate_17 ?_
    refine sw_if_le X 26 (by decide) dX5_gate_20 (fun q4 => ?_) (fun q4 => ?_)
    · have h := ite_T h q4
      refine sw_aload_n X 0 rfl rfl dX5_gate_26 ?_
      refine sw_getR X sw_cl5 (show sw_kd 0 = 5 from rfl) (k := 4) rfl (by decide) (o1 := 15) rfl wf_X5_29 dX5_gate_27 ?_
      refine sw_getR X sw_cl4 (show sw_kd 15 = 4 from rfl) (k := 3) rfl (by decide) (o1 := 18) rfl wf_X5_153 dX5_gate_30 ?_
      refine sw_iload_n X 1 rfl rfl dX5_gate_33 ?_
      obtain ⟨q5, h⟩ := bnd_E h
      refine sw_iald X (show sw_kd 18 = 8 from rfl) (n := 6) rfl q5 dX5_gate_34 ?_
      refine sw_topi (fun x6 ex6 => ?_)
      have h := nm_E h ex6
      refine sw_istore_n X [(2, .int x6), (0, .ref (g.1 0)), (1, .int a1)] rfl (by decide) rfl dX5_gate_35 ?_
      refine sw_aload_n X 1 rfl rfl dX5_gate_36 ?_
      refine sw_getR X sw_cl5 (show sw_kd 0 = 5 from rfl) (k := 4) rfl (by decide) (o1 := 15) rfl wf_X5_29 dX5_gate_37 ?_
      refine sw_getR X sw_cl4 (show sw_kd 15 = 4 from rfl) (k := 3) rfl (by decide) (o1 := 18) rfl wf_X5_153 dX5_gate_40 ?_
      refine sw_iload_n X 2 rfl rfl dX5_gate_43 ?_
      refine sw_iconst X (v := 1) (by decide) dX5_gate_44 ?_
      refine sw_iload_n X 0 rfl rfl dX5_gate_45 ?_
      refine sw_isub X dX5_gate_46 ?_
      obtain ⟨q7, h⟩ := bnd_E h
      refine sw_iast X (show sw_kd 18 = 8 from rfl) (n := 6) rfl q7 dX5_gate_47 (fun s8 es8 => ?_)
      have h := nm_E h es8
      refine sw_iload_n X 0 rfl rfl dX5_gate_48 ?_
      exact sw_iret X hr hlk dX5_gate_49 h
    · have h := ite_F h q4
      refine sw_bipush X (v := (-4)) (by decide) dX5_gate_23 ?_
      exact sw_iret X hr hlk dX5_gate_25 h
  · have h := ite_T h q3
    refine sw_iconst X (v := (-1)) (by decide) dX5_gate_11 ?_
    exact sw_iret X hr hlk dX5_gate_12 h
theorem dX5_let_0 : decode cX5_let 0 = .ok (.aload_n 0, 1) := by decide +kernel
theorem dX5_let_1 : decode cX5_let 1 = .ok (.getfield 29, 3) := by decide +kernel
theorem dX5_let_4 : decode cX5_let 4 = .ok (.iload_n 1, 1) := by decide +kernel
theorem dX5_let_5 : decode cX5_let 5 = .ok (.invokevirtual 137, 3) := by decide +kernel
theorem dX5_let_8 : decode cX5_let 8 = .ok (.ifCond .ne 5, 3) := by decide +kernel
theorem dX5_let_11 : decode cX5_let 11 = .ok (.iconst (-1), 1) := by decide +kernel
theorem dX5_let_12 : decode cX5_let 12 = .ok (.ireturn, 1) := by decide +kernel
theorem dX5_let_13 : decode cX5_let 13 = .ok (.aload_n 0, 1) := by decide +kernel
theorem dX5_let_14 : decode cX5_let 14 = .ok (.getfield 29, 3) := by decide +kernel
theorem dX5_let_17 : decode cX5_let 17 = .ok (.iload_n 1, 1) := by decide +kernel
theorem dX5_let_18 : decode cX5_let 18 = .ok (.invokevirtual 156, 3) := by decide +kernel
theorem dX5_let_21 : decode cX5_let 21 = .ok (.ifCond .eq 6, 3) := by decide +kernel
theorem dX5_let_24 : decode cX5_let 24 = .ok (.bipush (-4), 2) := by decide +kernel
theorem dX5_let_26 : decode cX5_let 26 = .ok (.ireturn, 1) := by decide +kernel
theorem dX5_let_27 : decode cX5_let 27 = .ok (.aload_n 0, 1) := by decide +kernel
theorem dX5_let_28 : decode cX5_let 28 = .ok (.getfield 29, 3) := by decide +kernel
theorem dX5_let_31 : decode cX5_let 31 = .ok (.iconst 1, 1) := by decide +kernel
theorem dX5_let_32 : decode cX5_let 32 = .ok (.invokevirtual 159, 3) := by decide +kernel
theorem dX5_let_35 : decode cX5_let 35 = .ok (.ifCond .eq 6, 3) := by decide +kernel
theorem dX5_let_38 : decode cX5_let 38 = .ok (.bipush (-2), 2) := by decide +kernel
theorem dX5_let_40 : decode cX5_let 40 = .ok (.ireturn, 1) := by decide +kernel
theorem dX5_let_41 : decode cX5_let 41 = .ok (.aload_n 0, 1) := by decide +kernel
theorem dX5_let_42 : decode cX5_let 42 = .ok (.getfield 29, 3) := by decide +kernel
theorem dX5_let_45 : decode cX5_let 45 = .ok (.iconst 0, 1) := by decide +kernel
theorem dX5_let_46 : decode cX5_let 46 = .ok (.iload_n 1, 1) := by decide +kernel
theorem dX5_let_47 : decode cX5_let 47 = .ok (.invokevirtual 162, 3) := by decide +kernel
theorem dX5_let_50 : decode cX5_let 50 = .ok (.aload_n 0, 1) := by decide +kernel
theorem dX5_let_51 : decode cX5_let 51 = .ok (.getfield 29, 3) := by decide +kernel
theorem dX5_let_54 : decode cX5_let 54 = .ok (.getfield 166, 3) := by decide +kernel
theorem dX5_let_57 : decode cX5_let 57 = .ok (.ireturn, 1) := by decide +kernel
def j_X5_let (F : Nat) (a1 : Int32) (st : sw_St) : Option (Int32 × sw_St) :=
bo (j_X4_has F 15 a1 st) (fun (r2 : Int32) =>
(if r2 = 0 then (
 some (((-1) : Int32), st))
else (
 bo (j_X4_isIn F 15 a1 st) (fun (r5 : Int32) =>
 (if r5 = 0 then (
  bo (j_X4_isFull F 15 1 st) (fun (r8 : Int32) =>
  (if r8 = 0 then (
   bd (j_X4_note F 15 0 a1 st) (fun (_ : Unit) (s11 : sw_St) =>
   some ((s11.1 15 7 : Int32), s11)))
  else (
   some (((-2) : Int32), st)))))
 else (
  some (((-4) : Int32), st)))))))
set_option maxHeartbeats 4000000 in
set_option maxRecDepth 100000 in
theorem c_X5_let (F : Nat) (a1 : Int32) (st : sw_St) {r : Int32} {st1 : sw_St} (h : j_X5_let F a1 st = some (r, st1)) : sw_CI yX5_let (.code yX5_let cX5_let 2 (some .int)) 7 (fun g => [.ref (g.1 0), .int a1]) st r st1 := by
  refine sw_entI RX5 (fun g => [(0, .ref (g.1 0)), (1, .int a1)]) (by decide) rfl (fun _ => Nat.le_of_ble_eq_true rfl) (fun _ => rfl) ?_
  intro p l e s m args below meth c g X hr hlk
  unfold j_X5_let at h
  refine sw_aload_n X 0 rfl rfl dX5_let_0 ?_
  refine sw_getR X sw_cl5 (show sw_kd 0 = 5 from rfl) (k := 4) rfl (by decide) (o1 := 15) rfl wf_X5_29 dX5_let_1 ?_
  refine sw_iload_n X 1 rfl rfl dX5_let_4 ?_
  obtain ⟨r2, c1, h⟩ := bo_E h
  refine sw_callVI X (o := 15) (As := (fun g => [.int a1])) sw_cl4 (show sw_kd 15 = 4 from rfl) ws_X4_has (by omega) (c_X4_has F (show sw_kd 15 = 4 from rfl) a1 st c1) rfl rfl (Nat.le_of_ble_eq_true rfl) wm_X5_137 dX5_let_5 ?_
  refine sw_if_ne X 13 (by decide) dX5_let_8 (fun q3 => ?_) (fun q3 => ?_)
  · have h := ite_F h q3
    refine sw_aload_n X 0 rfl rfl dX5_let_13 ?_
    refine sw_getR X sw_cl5 (show sw_kd 0 = 5 from rfl) (k := 4) rfl (by decide) (o1 := 15) rfl wf_X5_29 dX5_let_14 ?_
    refine sw_iload_n X 1 rfl rfl dX5_let_17 ?_
    obtain ⟨r5, c4, h⟩ := bo_E h
    refine sw_callVI X (o := 15) (As := (fun g => [.int a1])) sw_cl4 (show sw_kd 15 = 4 from rfl) ws_X4_isIn (by omega) (c_X4_isIn F (show sw_kd 15 = 4 from rfl) a1 st c4) rfl rfl (Nat.le_of_ble_eq_true rfl) wm_X5_156 dX5_let_18 ?_
    refine sw_if_eq X 27 (by decide) dX5_let_21 (fun q6 => ?_) (fun q6 => ?_)
    · have h := ite_T h q6
      refine sw_aload_n X 0 rfl rfl dX5_let_27 ?_
      refine sw_getR X sw_cl5 (show sw_kd 0 = 5 from rfl) (k := 4) rfl (by decide) (o1 := 15) rfl wf_X5_29 dX5_let_28 ?_
      refine sw_iconst X (v := 1) (by decide) dX5_let_31 ?_
      obtain ⟨r8, c7, h⟩ := bo_E h
      refine sw_callVI X (o := 15) (As := (fun g => [.int 1])) sw_cl4 (show sw_kd 15 = 4 from rfl) ws_X4_isFull (by omega) (c_X4_isFull F (show sw_kd 15 = 4 from rfl) 1 st c7) rfl rfl (Nat.le_of_ble_eq_true rfl) wm_X5_159 dX5_let_32 ?_
      refine sw_if_eq X 41 (by decide) dX5_let_35 (fun q9 => ?_) (fun q9 => ?_)
      · have h := ite_T h q9
        refine sw_aload_n X 0 rfl rfl dX5_let_41 ?_
        refine sw_getR X sw_cl5 (show sw_kd 0 = 5 from rfl) (k := 4) rfl (by decide) (o1 := 15) rfl wf_X5_29 dX5_let_42 ?_
        refine sw_iconst X (v := 0) (by decide) dX5_let_45 ?_
        refine sw_iload_n X 1 rfl rfl dX5_let_46 ?_
        obtain ⟨u12, s11, c10, h⟩ := bd_E h
        refine sw_callVV X (o := 15) (As := (fun g => [.int 0, .int a1])) sw_cl4 (show sw_kd 15 = 4 from rfl) ws_X4_note (by omega) (c_X4_note F (show sw_kd 15 = 4 from rfl) 0 a1 st c10) rfl rfl (Nat.le_of_ble_eq_true rfl) wm_X5_162 dX5_let_47 ?_
        refine sw_aload_n X 0 rfl rfl dX5_let_50 ?_
        refine sw_getR X sw_cl5 (show sw_kd 0 = 5 from rfl) (k := 4) rfl (by decide) (o1 := 15) rfl wf_X5_29 dX5_let_51 ?_
        refine sw_getI X sw_cl4 (show sw_kd 15 = 4 from rfl) (k := 7) rfl (by decide) wf_X5_166 dX5_let_54 ?_
        exact sw_iret X hr hlk dX5_let_57 h
      · have h := ite_F h q9
        refine sw_bipush X (v := (-2)) (by decide) dX5_let_38 ?_
        exact sw_iret X hr hlk dX5_let_40 h
    · have h := ite_F h q6
      refine sw_bipush X (v := (-4)) (by decide) dX5_let_24 ?_
      exact sw_iret X hr hlk dX5_let_26 h
  · have h := ite_T h q3
    refine sw_iconst X (v := (-1)) (by decide) dX5_let_11 ?_
    exact sw_iret X hr hlk dX5_let_12 h
theorem dX5_leave_0 : decode cX5_leave 0 = .ok (.aload_n 0, 1) := by decide +kernel
theorem dX5_leave_1 : decode cX5_leave 1 = .ok (.getfield 29, 3) := by decide +kernel
theorem dX5_leave_4 : decode cX5_leave 4 = .ok (.iload_n 1, 1) := by decide +kernel
theorem dX5_leave_5 : decode cX5_leave 5 = .ok (.invokevirtual 137, 3) := by decide +kernel
theorem dX5_leave_8 : decode cX5_leave 8 = .ok (.ifCond .ne 5, 3) := by decide +kernel
theorem dX5_leave_11 : decode cX5_leave 11 = .ok (.iconst (-1), 1) := by decide +kernel
theorem dX5_leave_12 : decode cX5_leave 12 = .ok (.ireturn, 1) := by decide +kernel
theorem dX5_leave_13 : decode cX5_leave 13 = .ok (.aload_n 0, 1) := by decide +kernel
theorem dX5_leave_14 : decode cX5_leave 14 = .ok (.getfield 29, 3) := by decide +kernel
theorem dX5_leave_17 : decode cX5_leave 17 = .ok (.iload_n 1, 1) := by decide +kernel
theorem dX5_leave_18 : decode cX5_leave 18 = .ok (.invokevirtual 156, 3) := by decide +kernel
theorem dX5_leave_21 : decode cX5_leave 21 = .ok (.ifCond .ne 6, 3) := by decide +kernel
theorem dX5_leave_24 : decode cX5_leave 24 = .ok (.bipush (-4), 2) := by decide +kernel
theorem dX5_leave_26 : decode cX5_leave 26 = .ok (.ireturn, 1) := by decide +kernel
theorem dX5_leave_27 : decode cX5_leave 27 = .ok (.aload_n 0, 1) := by decide +kernel
theorem dX5_leave_28 : decode cX5_leave 28 = .ok (.getfield 29, 3) := by decide +kernel
theorem dX5_leave_31 : decode cX5_leave 31 = .ok (.iconst 1, 1) := by decide +kernel
theorem dX5_leave_32 : decode cX5_leave 32 = .ok (.invokevirtual 159, 3) := by decide +kernel
theorem dX5_leave_35 : decode cX5_leave 35 = .ok (.ifCond .eq 6, 3) := by decide +kernel
theorem dX5_leave_38 : decode cX5_leave 38 = .ok (.bipush (-2), 2) := by decide +kernel
theorem dX5_leave_40 : decode cX5_leave 40 = .ok (.ireturn, 1) := by decide +kernel
theorem dX5_leave_41 : decode cX5_leave 41 = .ok (.aload_n 0, 1) := by decide +kernel
theorem dX5_leave_42 : decode cX5_leave 42 = .ok (.getfield 29, 3) := by decide +kernel
theorem dX5_leave_45 : decode cX5_leave 45 = .ok (.iconst 1, 1) := by decide +kernel
theorem dX5_leave_46 : decode cX5_leave 46 = .ok (.iload_n 1, 1) := by decide +kernel
theorem dX5_leave_47 : decode cX5_leave 47 = .ok (.invokevirtual 162, 3) := by decide +kernel
theorem dX5_leave_50 : decode cX5_leave 50 = .ok (.aload_n 0, 1) := by decide +kernel
theorem dX5_leave_51 : decode cX5_leave 51 = .ok (.getfield 29, 3) := by decide +kernel
theorem dX5_leave_54 : decode cX5_leave 54 = .ok (.getfield 169, 3) := by decide +kernel
theorem dX5_leave_57 : decode cX5_leave 57 = .ok (.invokestatic 172, 3) := by decide +kernel
theorem dX5_leave_60 : decode cX5_leave 60 = .ok (.ireturn, 1) := by decide +kernel
def j_X5_leave (F : Nat) (a1 : Int32) (st : sw_St) : Option (Int32 × sw_St) :=
bo (j_X4_has F 15 a1 st) (fun (r2 : Int32) =>
(if r2 = 0 then (
 some (((-1) : Int32), st))
else (
 bo (j_X4_isIn F 15 a1 st) (fun (r5 : Int32) =>
 (if r5 = 0 then (
  some (((-4) : Int32), st))
 else (
  bo (j_X4_isFull F 15 1 st) (fun (r8 : Int32) =>
  (if r8 = 0 then (
   bd (j_X4_note F 15 1 a1 st) (fun (_ : Unit) (s11 : sw_St) =>
   bo (j_J6_bitCount_0f7a4 F (s11.1 15 11) s11) (fun (r13 : Int32) =>
   some ((r13 : Int32), s11))))
  else (
   some (((-2) : Int32), st))))))))))
set_option maxHeartbeats 4000000 in
set_option maxRecDepth 100000 in
theorem c_X5_leave (F : Nat) (a1 : Int32) (st : sw_St) {r : Int32} {st1 : sw_St} (h : j_X5_leave F a1 st = some (r, st1)) : sw_CI yX5_leave (.code yX5_leave cX5_leave 2 (some .int)) 7 (fun g => [.ref (g.1 0), .int a1]) st r st1 := by
  refine sw_entI RX5 (fun g => [(0, .ref (g.1 0)), (1, .int a1)]) (by decide) rfl (fun _ => Nat.le_of_ble_eq_true rfl) (fun _ => rfl) ?_
  intro p l e s m args below meth c g X hr hlk
  unfold j_X5_leave at h
  refine sw_aload_n X 0 rfl rfl dX5_leave_0 ?_
  refine sw_getR X sw_cl5 (show sw_kd 0 = 5 from rfl) (k := 4) rfl (by decide) (o1 := 15) rfl wf_X5_29 dX5_leave_1 ?_
  refine sw_iload_n X 1 rfl rfl dX5_leave_4 ?_
  obtain ⟨r2, c1, h⟩ := bo_E h
  refine sw_callVI X (o := 15) (As := (fun g => [.int a1])) sw_cl4 (show sw_kd 15 = 4 from rfl) ws_X4_has (by omega) (c_X4_has F (show sw_kd 15 = 4 from rfl) a1 st c1) rfl rfl (Nat.le_of_ble_eq_true rfl) wm_X5_137 dX5_leave_5 ?_
  refine sw_if_ne X 13 (by decide) dX5_leave_8 (fun q3 => ?_) (fun q3 => ?_)
  · have h := ite_F h q3
    refine sw_aload_n X 0 rfl rfl dX5_leave_13 ?_
    refine sw_getR X sw_cl5 (show sw_kd 0 = 5 from rfl) (k := 4) rfl (by decide) (o1 := 15) rfl wf_X5_29 dX5_leave_14 ?_
    refine sw_iload_n X 1 rfl rfl dX5_leave_17 ?_
    obtain ⟨r5, c4, h⟩ := bo_E h
    refine sw_callVI X (o := 15) (As := (fun g => [.int a1])) sw_cl4 (show sw_kd 15 = 4 from rfl) ws_X4_isIn (by omega) (c_X4_isIn F (show sw_kd 15 = 4 from rfl) a1 st c4) rfl rfl (Nat.le_of_ble_eq_true rfl) wm_X5_156 dX5_leave_18 ?_
    refine sw_if_ne X 27 (by decide) dX5_leave_21 (fun q6 => ?_) (fun q6 => ?_)
    · have h := ite_F h q6
      refine sw_aload_n X 0 rfl rfl dX5_leave_27 ?_
      refine sw_getR X sw_cl5 (show sw_kd 0 = 5 from rfl) (k := 4) rfl (by decide) (o1 := 15) rfl wf_X5_29 dX5_leave_28 ?_
      refine sw_iconst X (v := 1) (by decide) dX5_leave_31 ?_
      obtain ⟨r8, c7, h⟩ := bo_E h
      refine sw_callVI X (o := 15) (As := (fun g => [.int 1])) sw_cl4 (show sw_kd 15 = 4 from rfl) ws_X4_isFull (by omega) (c_X4_isFull F (show sw_kd 15 = 4 from rfl) 1 st c7) rfl rfl (Nat.le_of_ble_eq_true rfl) wm_X5_159 dX5_leave_32 ?_
      refine sw_if_eq X 41 (by decide) dX5_leave_35 (fun q9 => ?_) (fun q9 => ?_)
      · have h := ite_T h q9
        refine sw_aload_n X 0 rfl rfl dX5_leave_41 ?_
        refine sw_getR X sw_cl5 (show sw_kd 0 = 5 from rfl) (k := 4) rfl (by decide) (o1 := 15) rfl wf_X5_29 dX5_leave_42 ?_
        refine sw_iconst X (v := 1) (by decide) dX5_leave_45 ?_
        refine sw_iload_n X 1 rfl rfl dX5_leave_46 ?_
        obtain ⟨u14, s11, c10, h⟩ := bd_E h
        refine sw_callVV X (o := 15) (As := (fun g => [.int 1, .int a1])) sw_cl4 (show sw_kd 15 = 4 from rfl) ws_X4_note (by omega) (c_X4_note F (show sw_kd 15 = 4 from rfl) 1 a1 st c10) rfl rfl (Nat.le_of_ble_eq_true rfl) wm_X5_162 dX5_leave_47 ?_
        refine sw_aload_n X 0 rfl rfl dX5_leave_50 ?_
        refine sw_getR X sw_cl5 (show sw_kd 0 = 5 from rfl) (k := 4) rfl (by decide) (o1 := 15) rfl wf_X5_29 dX5_leave_51 ?_
        refine sw_getI X sw_cl4 (show sw_kd 15 = 4 from rfl) (k := 11) rfl (by decide) wf_X5_169 dX5_leave_54 ?_
        obtain ⟨r13, c12, h⟩ := bo_E h
        refine sw_callSI X (As := (fun g => [.int (s11.1 15 11)])) ws_J6_bitCount_0f7a4 (by omega) (c_J6_bitCount_0f7a4 F (s11.1 15 11) s11 c12) rfl rfl (Nat.le_of_ble_eq_true rfl) wm_X5_172 dX5_leave_57 ?_
        exact sw_iret X hr hlk dX5_leave_60 h
      · have h := ite_F h q9
        refine sw_bipush X (v := (-2)) (by decide) dX5_leave_38 ?_
        exact sw_iret X hr hlk dX5_leave_40 h
    · have h := ite_T h q6
      refine sw_bipush X (v := (-4)) (by decide) dX5_leave_24 ?_
      exact sw_iret X hr hlk dX5_leave_26 h
  · have h := ite_T h q3
    refine sw_iconst X (v := (-1)) (by decide) dX5_leave_11 ?_
    exact sw_iret X hr hlk dX5_leave_12 h
theorem dX5_hour_0 : decode cX5_hour 0 = .ok (.aload_n 0, 1) := by decide +kernel
theorem dX5_hour_1 : decode cX5_hour 1 = .ok (.getfield 29, 3) := by decide +kernel
theorem dX5_hour_4 : decode cX5_hour 4 = .ok (.getfield 134, 3) := by decide +kernel
theorem dX5_hour_7 : decode cX5_hour 7 = .ok (.ifCond .ne 6, 3) := by decide +kernel
theorem dX5_hour_10 : decode cX5_hour 10 = .ok (.bipush (-4), 2) := by decide +kernel
theorem dX5_hour_12 : decode cX5_hour 12 = .ok (.ireturn, 1) := by decide +kernel
theorem dX5_hour_13 : decode cX5_hour 13 = .ok (.aload_n 0, 1) := by decide +kernel
theorem dX5_hour_14 : decode cX5_hour 14 = .ok (.getfield 29, 3) := by decide +kernel
theorem dX5_hour_17 : decode cX5_hour 17 = .ok (.iconst 1, 1) := by decide +kernel
theorem dX5_hour_18 : decode cX5_hour 18 = .ok (.invokevirtual 159, 3) := by decide +kernel
theorem dX5_hour_21 : decode cX5_hour 21 = .ok (.ifCond .eq 6, 3) := by decide +kernel
theorem dX5_hour_24 : decode cX5_hour 24 = .ok (.bipush (-2), 2) := by decide +kernel
theorem dX5_hour_26 : decode cX5_hour 26 = .ok (.ireturn, 1) := by decide +kernel
theorem dX5_hour_27 : decode cX5_hour 27 = .ok (.aload_n 0, 1) := by decide +kernel
theorem dX5_hour_28 : decode cX5_hour 28 = .ok (.getfield 29, 3) := by decide +kernel
theorem dX5_hour_31 : decode cX5_hour 31 = .ok (.aload_n 0, 1) := by decide +kernel
theorem dX5_hour_32 : decode cX5_hour 32 = .ok (.getfield 29, 3) := by decide +kernel
theorem dX5_hour_35 : decode cX5_hour 35 = .ok (.getfield 166, 3) := by decide +kernel
theorem dX5_hour_38 : decode cX5_hour 38 = .ok (.invokevirtual 177, 3) := by decide +kernel
theorem dX5_hour_41 : decode cX5_hour 41 = .ok (.istore_n 1, 1) := by decide +kernel
theorem dX5_hour_42 : decode cX5_hour 42 = .ok (.aload_n 0, 1) := by decide +kernel
theorem dX5_hour_43 : decode cX5_hour 43 = .ok (.getfield 29, 3) := by decide +kernel
theorem dX5_hour_46 : decode cX5_hour 46 = .ok (.iconst 2, 1) := by decide +kernel
theorem dX5_hour_47 : decode cX5_hour 47 = .ok (.iconst 0, 1) := by decide +kernel
theorem dX5_hour_48 : decode cX5_hour 48 = .ok (.invokevirtual 162, 3) := by decide +kernel
theorem dX5_hour_51 : decode cX5_hour 51 = .ok (.aload_n 0, 1) := by decide +kernel
theorem dX5_hour_52 : decode cX5_hour 52 = .ok (.aload_n 0, 1) := by decide +kernel
theorem dX5_hour_53 : decode cX5_hour 53 = .ok (.getfield 29, 3) := by decide +kernel
theorem dX5_hour_56 : decode cX5_hour 56 = .ok (.getfield 180, 3) := by decide +kernel
theorem dX5_hour_59 : decode cX5_hour 59 = .ok (.putfield 79, 3) := by decide +kernel
theorem dX5_hour_62 : decode cX5_hour 62 = .ok (.iload_n 1, 1) := by decide +kernel
theorem dX5_hour_63 : decode cX5_hour 63 = .ok (.ireturn, 1) := by decide +kernel
def j_X5_hour (F : Nat) (st : sw_St) : Option (Int32 × sw_St) :=
(if (st.1 15 0) = 0 then (
 some (((-4) : Int32), st))
else (
 bo (j_X4_isFull F 15 1 st) (fun (r3 : Int32) =>
 (if r3 = 0 then (
  bo (j_X4_strikesNext F 15 (st.1 15 7) st) (fun (r6 : Int32) =>
  bd (j_X4_note F 15 2 0 st) (fun (_ : Unit) (s8 : sw_St) =>
  nm (sw_setC s8 0 14 (s8.1 15 9)) (fun (s9 : sw_St) =>
  some ((r6 : Int32), s9)))))
 else (
  some (((-2) : Int32), st))))))
set_option maxHeartbeats 4000000 in
set_option maxRecDepth 100000 in
theorem c_X5_hour (F : Nat) (st : sw_St) {r : Int32} {st1 : sw_St} (h : j_X5_hour F  st = some (r, st1)) : sw_CI yX5_hour (.code yX5_hour cX5_hour 2 (some .int)) 7 (fun g => [.ref (g.1 0)]) st r st1 := by
  refine sw_entI RX5 (fun g => [(0, .ref (g.1 0))]) (by decide) rfl (fun _ => Nat.le_of_ble_eq_true rfl) (fun _ => rfl) ?_
  intro p l e s m args below meth c g X hr hlk
  unfold j_X5_hour at h
  refine sw_aload_n X 0 rfl rfl dX5_hour_0 ?_
  refine sw_getR X sw_cl5 (show sw_kd 0 = 5 from rfl) (k := 4) rfl (by decide) (o1 := 15) rfl wf_X5_29 dX5_hour_1 ?_
  refine sw_getI X sw_cl4 (show sw_kd 15 = 4 from rfl) (k := 0) rfl (by decide) wf_X5_134 dX5_hour_4 ?_
  refine sw_if_ne X 13 (by decide) dX5_hour_7 (fun q1 => ?_) (fun q1 => ?_)
  · have h := ite_F h q1
    refine sw_aload_n X 0 rfl rfl dX5_hour_13 ?_
    refine sw_getR X sw_cl5 (show sw_kd 0 = 5 from rfl) (k := 4) rfl (by decide) (o1 := 15) rfl wf_X5_29 dX5_hour_14 ?_
    refine sw_iconst X (v := 1) (by decide) dX5_hour_17 ?_
    obtain ⟨r3, c2, h⟩ := bo_E h
    refine sw_callVI X (o := 15) (As := (fun g => [.int 1])) sw_cl4 (show sw_kd 15 = 4 from rfl) ws_X4_isFull (by omega) (c_X4_isFull F (show sw_kd 15 = 4 from rfl) 1 st c2) rfl rfl (Nat.le_of_ble_eq_true rfl) wm_X5_159 dX5_hour_18 ?_
    refine sw_if_eq X 27 (by decide) dX5_hour_21 (fun q4 => ?_) (fun q4 => ?_)
    · have h := ite_T h q4
      refine sw_aload_n X 0 rfl rfl dX5_hour_27 ?_
      refine sw_getR X sw_cl5 (show sw_kd 0 = 5 from rfl) (k := 4) rfl (by decide) (o1 := 15) rfl wf_X5_29 dX5_hour_28 ?_
      refine sw_aload_n X 0 rfl rfl dX5_hour_31 ?_
      refine sw_getR X sw_cl5 (show sw_kd 0 = 5 from rfl) (k := 4) rfl (by decide) (o1 := 15) rfl wf_X5_29 dX5_hour_32 ?_
      refine sw_getI X sw_cl4 (show sw_kd 15 = 4 from rfl) (k := 7) rfl (by decide) wf_X5_166 dX5_hour_35 ?_
      obtain ⟨r6, c5, h⟩ := bo_E h
      refine sw_callVI X (o := 15) (As := (fun g => [.int (st.1 15 7)])) sw_cl4 (show sw_kd 15 = 4 from rfl) ws_X4_strikesNext (by omega) (c_X4_strikesNext F (show sw_kd 15 = 4 from rfl) (st.1 15 7) st c5) rfl rfl (Nat.le_of_ble_eq_true rfl) wm_X5_177 dX5_hour_38 ?_
      refine sw_istore_n X [(1, .int r6), (0, .ref (g.1 0))] rfl (by decide) rfl dX5_hour_41 ?_
      refine sw_aload_n X 1 rfl rfl dX5_hour_42 ?_
      refine sw_getR X sw_cl5 (show sw_kd 0 = 5 from rfl) (k := 4) rfl (by decide) (o1 := 15) rfl wf_X5_29 dX5_hour_43 ?_
      refine sw_iconst X (v := 2) (by decide) dX5_hour_46 ?_
      refine sw_iconst X (v := 0) (by decide) dX5_hour_47 ?_
      obtain ⟨u10, s8, c7, h⟩ := bd_E h
      refine sw_callVV X (o := 15) (As := (fun g => [.int 2, .int 0])) sw_cl4 (show sw_kd 15 = 4 from rfl) ws_X4_note (by omega) (c_X4_note F (show sw_kd 15 = 4 from rfl) 2 0 st c7) rfl rfl (Nat.le_of_ble_eq_true rfl) wm_X5_162 dX5_hour_48 ?_
      refine sw_aload_n X 1 rfl rfl dX5_hour_51 ?_
      refine sw_aload_n X 1 rfl rfl dX5_hour_52 ?_
      refine sw_getR X sw_cl5 (show sw_kd 0 = 5 from rfl) (k := 4) rfl (by decide) (o1 := 15) rfl wf_X5_29 dX5_hour_53 ?_
      refine sw_getI X sw_cl4 (show sw_kd 15 = 4 from rfl) (k := 9) rfl (by decide) wf_X5_180 dX5_hour_56 ?_
      refine sw_putI X sw_cl5 (show sw_kd 0 = 5 from rfl) (k := 14) rfl (by decide) rfl rfl wf_X5_79 dX5_hour_59 (fun s9 es9 => ?_)
      have h := nm_E h es9
      refine sw_iload_n X 0 rfl rfl dX5_hour_62 ?_
      exact sw_iret X hr hlk dX5_hour_63 h
    · have h := ite_F h q4
      refine sw_bipush X (v := (-2)) (by decide) dX5_hour_24 ?_
      exact sw_iret X hr hlk dX5_hour_26 h
  · have h := ite_T h q1
    refine sw_bipush X (v := (-4)) (by decide) dX5_hour_10 ?_
    exact sw_iret X hr hlk dX5_hour_12 h
theorem dX5_frost_0 : decode cX5_frost 0 = .ok (.iload_n 1, 1) := by decide +kernel
theorem dX5_frost_1 : decode cX5_frost 1 = .ok (.ifCond .lt 8, 3) := by decide +kernel
theorem dX5_frost_4 : decode cX5_frost 4 = .ok (.iload_n 1, 1) := by decide +kernel
theorem dX5_frost_5 : decode cX5_frost 5 = .ok (.iconst 3, 1) := by decide +kernel
theorem dX5_frost_6 : decode cX5_frost 6 = .ok (.if_icmp .le 5, 3) := by decide +kernel
theorem dX5_frost_9 : decode cX5_frost 9 = .ok (.iconst (-1), 1) := by decide +kernel
theorem dX5_frost_10 : decode cX5_frost 10 = .ok (.ireturn, 1) := by decide +kernel
theorem dX5_frost_11 : decode cX5_frost 11 = .ok (.aload_n 0, 1) := by decide +kernel
theorem dX5_frost_12 : decode cX5_frost 12 = .ok (.getfield 29, 3) := by decide +kernel
theorem dX5_frost_15 : decode cX5_frost 15 = .ok (.getfield 134, 3) := by decide +kernel
theorem dX5_frost_18 : decode cX5_frost 18 = .ok (.ifCond .eq 14, 3) := by decide +kernel
theorem dX5_frost_21 : decode cX5_frost 21 = .ok (.aload_n 0, 1) := by decide +kernel
theorem dX5_frost_22 : decode cX5_frost 22 = .ok (.getfield 29, 3) := by decide +kernel
theorem dX5_frost_25 : decode cX5_frost 25 = .ok (.getfield 183, 3) := by decide +kernel
theorem dX5_frost_28 : decode cX5_frost 28 = .ok (.iload_n 1, 1) := by decide +kernel
theorem dX5_frost_29 : decode cX5_frost 29 = .ok (.if_icmp .ne 6, 3) := by decide +kernel
theorem dX5_frost_32 : decode cX5_frost 32 = .ok (.bipush (-4), 2) := by decide +kernel
theorem dX5_frost_34 : decode cX5_frost 34 = .ok (.ireturn, 1) := by decide +kernel
theorem dX5_frost_35 : decode cX5_frost 35 = .ok (.aload_n 0, 1) := by decide +kernel
theorem dX5_frost_36 : decode cX5_frost 36 = .ok (.getfield 29, 3) := by decide +kernel
theorem dX5_frost_39 : decode cX5_frost 39 = .ok (.iconst 1, 1) := by decide +kernel
theorem dX5_frost_40 : decode cX5_frost 40 = .ok (.invokevirtual 159, 3) := by decide +kernel
theorem dX5_frost_43 : decode cX5_frost 43 = .ok (.ifCond .eq 6, 3) := by decide +kernel
theorem dX5_frost_46 : decode cX5_frost 46 = .ok (.bipush (-2), 2) := by decide +kernel
theorem dX5_frost_48 : decode cX5_frost 48 = .ok (.ireturn, 1) := by decide +kernel
theorem dX5_frost_49 : decode cX5_frost 49 = .ok (.aload_n 0, 1) := by decide +kernel
theorem dX5_frost_50 : decode cX5_frost 50 = .ok (.getfield 29, 3) := by decide +kernel
theorem dX5_frost_53 : decode cX5_frost 53 = .ok (.getfield 183, 3) := by decide +kernel
theorem dX5_frost_56 : decode cX5_frost 56 = .ok (.istore_n 2, 1) := by decide +kernel
theorem dX5_frost_57 : decode cX5_frost 57 = .ok (.aload_n 0, 1) := by decide +kernel
theorem dX5_frost_58 : decode cX5_frost 58 = .ok (.getfield 29, 3) := by decide +kernel
theorem dX5_frost_61 : decode cX5_frost 61 = .ok (.iconst 3, 1) := by decide +kernel
theorem dX5_frost_62 : decode cX5_frost 62 = .ok (.iload_n 1, 1) := by decide +kernel
theorem dX5_frost_63 : decode cX5_frost 63 = .ok (.invokevirtual 162, 3) := by decide +kernel
theorem dX5_frost_66 : decode cX5_frost 66 = .ok (.iload_n 2, 1) := by decide +kernel
theorem dX5_frost_67 : decode cX5_frost 67 = .ok (.ireturn, 1) := by decide +kernel
def j_X5_frost (F : Nat) (a1 : Int32) (st : sw_St) : Option (Int32 × sw_St) :=
jn (
  some (((-1) : Int32), st)) (fun k1 =>
 (if a1 < 0 then (
  k1)
 else (
  (if a1 ≤ 3 then (
   jn (
     some (((-4) : Int32), st)) (fun k5 =>
    (if (st.1 15 0) = 0 then (
     k5)
    else (
     (if (st.1 15 8) = a1 then (
      k5)
     else (
      bo (j_X4_isFull F 15 1 st) (fun (r10 : Int32) =>
      (if r10 = 0 then (
       nm (st.1 15 8) (fun (x12 : Int32) =>
       bd (j_X4_note F 15 3 a1 st) (fun (_ : Unit) (s14 : sw_St) =>
       some ((x12 : Int32), s14))))
      else (
       some (((-2) : Int32), st))))))))))
  else (
   k1)))))
set_option maxHeartbeats 4000000 in
set_option maxRecDepth 100000 in
theorem c_X5_frost (F : Nat) (a1 : Int32) (st : sw_St) {r : Int32} {st1 : sw_St} (h : j_X5_frost F a1 st = some (r, st1)) : sw_CI yX5_frost (.code yX5_frost cX5_frost 3 (some .int)) 7 (fun g => [.ref (g.1 0), .int a1]) st r st1 := by
  refine sw_entI RX5 (fun g => [(0, .ref (g.1 0)), (1, .int a1)]) (by decide) rfl (fun _ => Nat.le_of_ble_eq_true rfl) (fun _ => rfl) ?_
  intro p l e s m args below meth c g X hr hlk
  unfold j_X5_frost at h
  refine sw_iload_n X 1 rfl rfl dX5_frost_0 ?_
  refine jn0_E (sw_V p l e 7 s m args below meth c g (sw_A g s.heap.size) (sw_QI below g args s r st1) 3 9 [] [] st) h (fun h => ?_) (fun k1 J2 h => ?_)
  · refine sw_iconst X (v := (-1)) (by decide) dX5_frost_9 ?_
    exact sw_iret X hr hlk dX5_frost_10 h
  · refine sw_if_lt X 9 (by decide) dX5_frost_1 (fun q3 => ?_) (fun q3 => ?_)
    · have h := ite_T h q3
      refine sw_sub [] rfl ?_
      exact J2  h
    · have h := ite_F h q3
      refine sw_iload_n X 1 rfl rfl dX5_frost_4 ?_
      refine sw_iconst X (v := 3) (by decide) dX5_frost_5 ?_
      refine sw_icmp_le X 11 (by decide) dX5_frost_6 (fun q4 => ?_) (fun q4 => ?_)
      · have h := ite_T h q4
        refine sw_aload_n X 0 rfl rfl dX5_frost_11 ?_
        refine sw_getR X sw_cl5 (show sw_kd 0 = 5 from rfl) (k := 4) rfl (by decide) (o1 := 15) rfl wf_X5_29 dX5_frost_12 ?_
        refine sw_getI X sw_cl4 (show sw_kd 15 = 4 from rfl) (k := 0) rfl (by decide) wf_X5_134 dX5_frost_15 ?_
        refine jn0_E (sw_V p l e 7 s m args below meth c g (sw_A g s.heap.size) (sw_QI below g args s r st1) 3 32 [] [] st) h (fun h => ?_) (fun k5 J6 h => ?_)
        · refine sw_bipush X (v := (-4)) (by decide) dX5_frost_32 ?_
          exact sw_iret X hr hlk dX5_frost_34 h
        · refine sw_if_eq X 32 (by decide) dX5_frost_18 (fun q7 => ?_) (fun q7 => ?_)
          · have h := ite_T h q7
            refine sw_sub [] rfl ?_
            exact J6  h
          · have h := ite_F h q7
            refine sw_aload_n X 0 rfl rfl dX5_frost_21 ?_
            refine sw_getR X sw_cl5 (show sw_kd 0 = 5 from rfl) (k := 4) rfl (by decide) (o1 := 15) rfl wf_X5_29 dX5_frost_22 ?_
            refine sw_getI X sw_cl4 (show sw_kd 15 = 4 from rfl) (k := 8) rfl (by decide) wf_X5_183 dX5_frost_25 ?_
            refine sw_iload_n X 1 rfl rfl dX5_frost_28 ?_
            refine sw_icmp_ne X 35 (by decide) dX5_frost_29 (fun q8 => ?_) (fun q8 => ?_)
            · have h := ite_F h q8
              refine sw_aload_n X 0 rfl rfl dX5_frost_35 ?_
              refine sw_getR X sw_cl5 (show sw_kd 0 = 5 from rfl) (k := 4) rfl (by decide) (o1 := 15) rfl wf_X5_29 dX5_frost_36 ?_
              refine sw_iconst X (v := 1) (by decide) dX5_frost_39 ?_
              obtain ⟨r10, c9, h⟩ := bo_E h
              refine sw_callVI X (o := 15) (As := (fun g => [.int 1])) sw_cl4 (show sw_kd 15 = 4 from rfl) ws_X4_isFull (by omega) (c_X4_isFull F (show sw_kd 15 = 4 from rfl) 1 st c9) rfl rfl (Nat.le_of_ble_eq_true rfl) wm_X5_159 dX5_frost_40 ?_
              refine sw_if_eq X 49 (by decide) dX5_frost_43 (fun q11 => ?_) (fun q11 => ?_)
              · have h := ite_T h q11
                refine sw_aload_n X 0 rfl rfl dX5_frost_49 ?_
                refine sw_getR X sw_cl5 (show sw_kd 0 = 5 from rfl) (k := 4) rfl (by decide) (o1 := 15) rfl wf_X5_29 dX5_frost_50 ?_
                refine sw_getI X sw_cl4 (show sw_kd 15 = 4 from rfl) (k := 8) rfl (by decide) wf_X5_183 dX5_frost_53 ?_
                refine sw_topi (fun x12 ex12 => ?_)
                have h := nm_E h ex12
                refine sw_istore_n X [(2, .int x12), (0, .ref (g.1 0)), (1, .int a1)] rfl (by decide) rfl dX5_frost_56 ?_
                refine sw_aload_n X 1 rfl rfl dX5_frost_57 ?_
                refine sw_getR X sw_cl5 (show sw_kd 0 = 5 from rfl) (k := 4) rfl (by decide) (o1 := 15) rfl wf_X5_29 dX5_frost_58 ?_
                refine sw_iconst X (v := 3) (by decide) dX5_frost_61 ?_
                refine sw_iload_n X 2 rfl rfl dX5_frost_62 ?_
                obtain ⟨u15, s14, c13, h⟩ := bd_E h
                refine sw_callVV X (o := 15) (As := (fun g => [.int 3, .int a1])) sw_cl4 (show sw_kd 15 = 4 from rfl) ws_X4_note (by omega) (c_X4_note F (show sw_kd 15 = 4 from rfl) 3 a1 st c13) rfl rfl (Nat.le_of_ble_eq_true rfl) wm_X5_162 dX5_frost_63 ?_
                refine sw_iload_n X 0 rfl rfl dX5_frost_66 ?_
                exact sw_iret X hr hlk dX5_frost_67 h
              · have h := ite_F h q11
                refine sw_bipush X (v := (-2)) (by decide) dX5_frost_46 ?_
                exact sw_iret X hr hlk dX5_frost_48 h
            · have h := ite_T h q8
              refine sw_sub [] rfl ?_
              exact J6  h
      · have h := ite_F h q4
        refine sw_sub [] rfl ?_
        exact J2  h
theorem dX5_undo_0 : decode cX5_undo 0 = .ok (.iload_n 1, 1) := by decide +kernel
theorem dX5_undo_1 : decode cX5_undo 1 = .ok (.ifCond .lt 14, 3) := by decide +kernel
theorem dX5_undo_4 : decode cX5_undo 4 = .ok (.iload_n 1, 1) := by decide +kernel
theorem dX5_undo_5 : decode cX5_undo 5 = .ok (.aload_n 0, 1) := by decide +kernel
theorem dX5_undo_6 : decode cX5_undo 6 = .ok (.getfield 29, 3) := by decide +kernel
theorem dX5_undo_9 : decode cX5_undo 9 = .ok (.getfield 150, 3) := by decide +kernel
theorem dX5_undo_12 : decode cX5_undo 12 = .ok (.if_icmp .le 5, 3) := by decide +kernel
theorem dX5_undo_15 : decode cX5_undo 15 = .ok (.iconst (-1), 1) := by decide +kernel
theorem dX5_undo_16 : decode cX5_undo 16 = .ok (.ireturn, 1) := by decide +kernel
theorem dX5_undo_17 : decode cX5_undo 17 = .ok (.aload_n 0, 1) := by decide +kernel
theorem dX5_undo_18 : decode cX5_undo 18 = .ok (.getfield 29, 3) := by decide +kernel
theorem dX5_undo_21 : decode cX5_undo 21 = .ok (.getfield 150, 3) := by decide +kernel
theorem dX5_undo_24 : decode cX5_undo 24 = .ok (.iload_n 1, 1) := by decide +kernel
theorem dX5_undo_25 : decode cX5_undo 25 = .ok (.isub, 1) := by decide +kernel
theorem dX5_undo_26 : decode cX5_undo 26 = .ok (.istore_n 2, 1) := by decide +kernel
theorem dX5_undo_27 : decode cX5_undo 27 = .ok (.aload_n 0, 1) := by decide +kernel
theorem dX5_undo_28 : decode cX5_undo 28 = .ok (.getfield 29, 3) := by decide +kernel
theorem dX5_undo_31 : decode cX5_undo 31 = .ok (.iload_n 1, 1) := by decide +kernel
theorem dX5_undo_32 : decode cX5_undo 32 = .ok (.invokevirtual 186, 3) := by decide +kernel
theorem dX5_undo_35 : decode cX5_undo 35 = .ok (.iload_n 2, 1) := by decide +kernel
theorem dX5_undo_36 : decode cX5_undo 36 = .ok (.ireturn, 1) := by decide +kernel
def j_X5_undo (F : Nat) (a1 : Int32) (st : sw_St) : Option (Int32 × sw_St) :=
jn (
  some (((-1) : Int32), st)) (fun k1 =>
 (if a1 < 0 then (
  k1)
 else (
  (if a1 ≤ (st.1 15 14) then (
   nm ((st.1 15 14) - a1) (fun (x5 : Int32) =>
   bd (j_X4_redo F 15 a1 st) (fun (_ : Unit) (s7 : sw_St) =>
   some ((x5 : Int32), s7))))
  else (
   k1)))))
set_option maxHeartbeats 4000000 in
set_option maxRecDepth 100000 in
theorem c_X5_undo (F : Nat) (a1 : Int32) (st : sw_St) {r : Int32} {st1 : sw_St} (h : j_X5_undo F a1 st = some (r, st1)) : sw_CI yX5_undo (.code yX5_undo cX5_undo 3 (some .int)) 7 (fun g => [.ref (g.1 0), .int a1]) st r st1 := by
  refine sw_entI RX5 (fun g => [(0, .ref (g.1 0)), (1, .int a1)]) (by decide) rfl (fun _ => Nat.le_of_ble_eq_true rfl) (fun _ => rfl) ?_
  intro p l e s m args below meth c g X hr hlk
  unfold j_X5_undo at h
  refine sw_iload_n X 1 rfl rfl dX5_undo_0 ?_
  refine jn0_E (sw_V p l e 7 s m args below meth c g (sw_A g s.heap.size) (sw_QI below g args s r st1) 3 15 [] [] st) h (fun h => ?_) (fun k1 J2 h => ?_)
  · refine sw_iconst X (v := (-1)) (by decide) dX5_undo_15 ?_
    exact sw_iret X hr hlk dX5_undo_16 h
  · refine sw_if_lt X 15 (by decide) dX5_undo_1 (fun q3 => ?_) (fun q3 => ?_)
    · have h := ite_T h q3
      refine sw_sub [] rfl ?_
      exact J2  h
    · have h := ite_F h q3
      refine sw_iload_n X 1 rfl rfl dX5_undo_4 ?_
      refine sw_aload_n X 0 rfl rfl dX5_undo_5 ?_
      refine sw_getR X sw_cl5 (show sw_kd 0 = 5 from rfl) (k := 4) rfl (by decide) (o1 := 15) rfl wf_X5_29 dX5_undo_6 ?_
      refine sw_getI X sw_cl4 (show sw_kd 15 = 4 from rfl) (k := 14) rfl (by decide) wf_X5_150 dX5_undo_9 ?_
      refine sw_icmp_le X 17 (by decide) dX5_undo_12 (fun q4 => ?_) (fun q4 => ?_)
      · have h := ite_T h q4
        refine sw_aload_n X 0 rfl rfl dX5_undo_17 ?_
        refine sw_getR X sw_cl5 (show sw_kd 0 = 5 from rfl) (k := 4) rfl (by decide) (o1 := 15) rfl wf_X5_29 dX5_undo_18 ?_
        refine sw_getI X sw_cl4 (show sw_kd 15 = 4 from rfl) (k := 14) rfl (by decide) wf_X5_150 dX5_undo_21 ?_
        refine sw_iload_n X 1 rfl rfl dX5_undo_24 ?_
        refine sw_isub X dX5_undo_25 ?_
        refine sw_topi (fun x5 ex5 => ?_)
        have h := nm_E h ex5
        refine sw_istore_n X [(2, .int x5), (0, .ref (g.1 0)), (1, .int a1)] rfl (by decide) rfl dX5_undo_26 ?_
        refine sw_aload_n X 1 rfl rfl dX5_undo_27 ?_
        refine sw_getR X sw_cl5 (show sw_kd 0 = 5 from rfl) (k := 4) rfl (by decide) (o1 := 15) rfl wf_X5_29 dX5_undo_28 ?_
        refine sw_iload_n X 2 rfl rfl dX5_undo_31 ?_
        obtain ⟨u8, s7, c6, h⟩ := bd_E h
        refine sw_callVV X (o := 15) (As := (fun g => [.int a1])) sw_cl4 (show sw_kd 15 = 4 from rfl) ws_X4_redo (by omega) (c_X4_redo F (show sw_kd 15 = 4 from rfl) a1 st c6) rfl rfl (Nat.le_of_ble_eq_true rfl) wm_X5_186 dX5_undo_32 ?_
        refine sw_iload_n X 0 rfl rfl dX5_undo_35 ?_
        exact sw_iret X hr hlk dX5_undo_36 h
      · have h := ite_F h q4
        refine sw_sub [] rfl ?_
        exact J2  h
theorem dX5_isKeep_0 : decode cX5_isKeep 0 = .ok (.iload_n 0, 1) := by decide +kernel
theorem dX5_isKeep_1 : decode cX5_isKeep 1 = .ok (.ifCond .lt 12, 3) := by decide +kernel
theorem dX5_isKeep_4 : decode cX5_isKeep 4 = .ok (.iload_n 0, 1) := by decide +kernel
theorem dX5_isKeep_5 : decode cX5_isKeep 5 = .ok (.iconst 3, 1) := by decide +kernel
theorem dX5_isKeep_6 : decode cX5_isKeep 6 = .ok (.if_icmp .ge 7, 3) := by decide +kernel
theorem dX5_isKeep_9 : decode cX5_isKeep 9 = .ok (.iconst 1, 1) := by decide +kernel
theorem dX5_isKeep_10 : decode cX5_isKeep 10 = .ok (.goto 4, 3) := by decide +kernel
theorem dX5_isKeep_13 : decode cX5_isKeep 13 = .ok (.iconst 0, 1) := by decide +kernel
theorem dX5_isKeep_14 : decode cX5_isKeep 14 = .ok (.ireturn, 1) := by decide +kernel
def j_X5_isKeep (F : Nat) (a1 : Int32) (st : sw_St) : Option Int32 :=
jn (fun (x1 : Int32) => 
  grd (x1 = 0 ∨ x1 = 1) (some (x1 : Int32))) (fun k2 =>
 jn (
   k2 0) (fun k5 =>
  (if a1 < 0 then (
   k5)
  else (
   (if 3 ≤ a1 then (
    k5)
   else (
    k2 1))))))
set_option maxHeartbeats 4000000 in
set_option maxRecDepth 100000 in
theorem c_X5_isKeep (F : Nat) (a1 : Int32) (st : sw_St) {r : Int32} (h : j_X5_isKeep F a1 st = some r) : sw_CI yX5_isKeep (.code yX5_isKeep cX5_isKeep 1 (some .boolean)) 1 (fun g => [.int a1]) st r st := by
  refine sw_entI RX5 (fun g => [(0, .int a1)]) (by decide) rfl (fun _ => Nat.le_of_ble_eq_true rfl) (fun _ => rfl) ?_
  intro p l e s m args below meth c g X hr hlk
  unfold j_X5_isKeep at h
  refine sw_iload_n X 0 rfl rfl dX5_isKeep_0 ?_
  refine jn1_E (fun (x1 : Int32) => sw_V p l e 1 s m args below meth c g (sw_A g s.heap.size) (sw_QI below g args s r st) 1 14 [] [.int x1] st) h (fun x1 h => ?_) (fun k2 J3 h => ?_)
  · obtain ⟨q4, h⟩ := grd_E h
    exact sw_zret X hr hlk q4 dX5_isKeep_14 (by cases h; rfl)
  · refine jn0_E (sw_V p l e 1 s m args below meth c g (sw_A g s.heap.size) (sw_QI below g args s r st) 1 13 [] [] st) h (fun h => ?_) (fun k5 J6 h => ?_)
    · refine sw_iconst X (v := 0) (by decide) dX5_isKeep_13 ?_
      exact J3 _ h
    · refine sw_if_lt X 13 (by decide) dX5_isKeep_1 (fun q7 => ?_) (fun q7 => ?_)
      · have h := ite_T h q7
        refine sw_sub [] rfl ?_
        exact J6  h
      · have h := ite_F h q7
        refine sw_iload_n X 0 rfl rfl dX5_isKeep_4 ?_
        refine sw_iconst X (v := 3) (by decide) dX5_isKeep_5 ?_
        refine sw_icmp_ge X 13 (by decide) dX5_isKeep_6 (fun q8 => ?_) (fun q8 => ?_)
        · have h := ite_T h q8
          refine sw_sub [] rfl ?_
          exact J6  h
        · have h := ite_F h q8
          refine sw_iconst X (v := 1) (by decide) dX5_isKeep_9 ?_
          refine sw_goto X 14 (by decide) dX5_isKeep_10 ?_
          refine sw_sub [] rfl ?_
          exact J3 _ h
theorem dX5_keep_0 : decode cX5_keep 0 = .ok (.iload_n 1, 1) := by decide +kernel
theorem dX5_keep_1 : decode cX5_keep 1 = .ok (.invokestatic 190, 3) := by decide +kernel
theorem dX5_keep_4 : decode cX5_keep 4 = .ok (.ifCond .ne 5, 3) := by decide +kernel
theorem dX5_keep_7 : decode cX5_keep 7 = .ok (.iconst (-1), 1) := by decide +kernel
theorem dX5_keep_8 : decode cX5_keep 8 = .ok (.ireturn, 1) := by decide +kernel
theorem dX5_keep_9 : decode cX5_keep 9 = .ok (.aload_n 0, 1) := by decide +kernel
theorem dX5_keep_10 : decode cX5_keep 10 = .ok (.getfield 29, 3) := by decide +kernel
theorem dX5_keep_13 : decode cX5_keep 13 = .ok (.getfield 134, 3) := by decide +kernel
theorem dX5_keep_16 : decode cX5_keep 16 = .ok (.ifCond .ne 6, 3) := by decide +kernel
theorem dX5_keep_19 : decode cX5_keep 19 = .ok (.bipush (-4), 2) := by decide +kernel
theorem dX5_keep_21 : decode cX5_keep 21 = .ok (.ireturn, 1) := by decide +kernel
theorem dX5_keep_22 : decode cX5_keep 22 = .ok (.aload_n 0, 1) := by decide +kernel
theorem dX5_keep_23 : decode cX5_keep 23 = .ok (.getfield 36, 3) := by decide +kernel
theorem dX5_keep_26 : decode cX5_keep 26 = .ok (.iload_n 1, 1) := by decide +kernel
theorem dX5_keep_27 : decode cX5_keep 27 = .ok (.aaload, 1) := by decide +kernel
theorem dX5_keep_28 : decode cX5_keep 28 = .ok (.aload_n 0, 1) := by decide +kernel
theorem dX5_keep_29 : decode cX5_keep 29 = .ok (.getfield 29, 3) := by decide +kernel
theorem dX5_keep_32 : decode cX5_keep 32 = .ok (.invokevirtual 130, 3) := by decide +kernel
theorem dX5_keep_35 : decode cX5_keep 35 = .ok (.aload_n 0, 1) := by decide +kernel
theorem dX5_keep_36 : decode cX5_keep 36 = .ok (.getfield 40, 3) := by decide +kernel
theorem dX5_keep_39 : decode cX5_keep 39 = .ok (.iload_n 1, 1) := by decide +kernel
theorem dX5_keep_40 : decode cX5_keep 40 = .ok (.iconst 1, 1) := by decide +kernel
theorem dX5_keep_41 : decode cX5_keep 41 = .ok (.bastore, 1) := by decide +kernel
theorem dX5_keep_42 : decode cX5_keep 42 = .ok (.aload_n 0, 1) := by decide +kernel
theorem dX5_keep_43 : decode cX5_keep 43 = .ok (.getfield 29, 3) := by decide +kernel
theorem dX5_keep_46 : decode cX5_keep 46 = .ok (.getfield 150, 3) := by decide +kernel
theorem dX5_keep_49 : decode cX5_keep 49 = .ok (.ireturn, 1) := by decide +kernel
def j_X5_keep (F : Nat) (a1 : Int32) (st : sw_St) : Option (Int32 × sw_St) :=
bo (j_X5_isKeep F a1 st) (fun (r2 : Int32) =>
(if r2 = 0 then (
 some (((-1) : Int32), st))
else (
 (if (st.1 15 0) = 0 then (
  some (((-4) : Int32), st))
 else (
  bnd a1 3 (
  bd (j_X4_takeFrom F (30 + 7 * (a1 : Int32).toNatClampNeg) 15 st) (fun (_ : Unit) (s7 : sw_St) =>
  bnd a1 3 (
  nm (sw_setC s7 51 (a1 : Int32).toNatClampNeg (vp_nar .boolean 1)) (fun (s9 : sw_St) =>
  some ((s9.1 15 14 : Int32), s9))))))))))
set_option maxHeartbeats 4000000 in
set_option maxRecDepth 100000 in
theorem c_X5_keep (F : Nat) (a1 : Int32) (st : sw_St) {r : Int32} {st1 : sw_St} (h : j_X5_keep F a1 st = some (r, st1)) : sw_CI yX5_keep (.code yX5_keep cX5_keep 2 (some .int)) 2 (fun g => [.ref (g.1 0), .int a1]) st r st1 := by
  refine sw_entI RX5 (fun g => [(0, .ref (g.1 0)), (1, .int a1)]) (by decide) rfl (fun _ => Nat.le_of_ble_eq_true rfl) (fun _ => rfl) ?_
  intro p l e s m args below meth c g X hr hlk
  unfold j_X5_keep at h
  refine sw_iload_n X 1 rfl rfl dX5_keep_0 ?_
  obtain ⟨r2, c1, h⟩ := bo_E h
  refine sw_callSI X (As := (fun g => [.int a1])) ws_X5_isKeep (by omega) (c_X5_isKeep F a1 st c1) rfl rfl (Nat.le_of_ble_eq_true rfl) wm_X5_190 dX5_keep_1 ?_
  refine sw_if_ne X 9 (by decide) dX5_keep_4 (fun q3 => ?_) (fun q3 => ?_)
  · have h := ite_F h q3
    refine sw_aload_n X 0 rfl rfl dX5_keep_9 ?_
    refine sw_getR X sw_cl5 (show sw_kd 0 = 5 from rfl) (k := 4) rfl (by decide) (o1 := 15) rfl wf_X5_29 dX5_keep_10 ?_
    refine sw_getI X sw_cl4 (show sw_kd 15 = 4 from rfl) (k := 0) rfl (by decide) wf_X5_134 dX5_keep_13 ?_
    refine sw_if_ne X 22 (by decide) dX5_keep_16 (fun q4 => ?_) (fun q4 => ?_)
    · have h := ite_F h q4
      refine sw_aload_n X 0 rfl rfl dX5_keep_22 ?_
      refine sw_getR X sw_cl5 (show sw_kd 0 = 5 from rfl) (k := 6) rfl (by decide) (o1 := 29) rfl wf_X5_36 dX5_keep_23 ?_
      refine sw_iload_n X 1 rfl rfl dX5_keep_26 ?_
      obtain ⟨q5, h⟩ := bnd_E h
      refine sw_aaldT X (show sw_kd 29 = 10 from rfl) (n := 3) rfl q5 (a1 := 30 + 7 * (a1 : Int32).toNatClampNeg) rfl dX5_keep_27 ?_
      refine sw_aload_n X 0 rfl rfl dX5_keep_28 ?_
      refine sw_getR X sw_cl5 (show sw_kd 0 = 5 from rfl) (k := 4) rfl (by decide) (o1 := 15) rfl wf_X5_29 dX5_keep_29 ?_
      obtain ⟨u10, s7, c6, h⟩ := bd_E h
      refine sw_callVV X (o := 30 + 7 * (a1 : Int32).toNatClampNeg) (As := (fun g => [.ref (g.1 15)])) sw_cl4 (show sw_kd (30 + 7 * (a1 : Int32).toNatClampNeg) = 4 from (sw_kk q5)) ws_X4_takeFrom (by omega) (c_X4_takeFrom F (show sw_kd (30 + 7 * (a1 : Int32).toNatClampNeg) = 4 from (sw_kk q5)) (show sw_kd 15 = 4 from rfl) st c6) rfl rfl (Nat.le_of_ble_eq_true rfl) wm_X5_130 dX5_keep_32 ?_
      refine sw_aload_n X 0 rfl rfl dX5_keep_35 ?_
      refine sw_getR X sw_cl5 (show sw_kd 0 = 5 from rfl) (k := 7) rfl (by decide) (o1 := 51) rfl wf_X5_40 dX5_keep_36 ?_
      refine sw_iload_n X 1 rfl rfl dX5_keep_39 ?_
      refine sw_iconst X (v := 1) (by decide) dX5_keep_40 ?_
      obtain ⟨q8, h⟩ := bnd_E h
      refine sw_zast X (show sw_kd 51 = 9 from rfl) (n := 3) rfl q8 dX5_keep_41 (fun s9 es9 => ?_)
      have h := nm_E h es9
      refine sw_aload_n X 0 rfl rfl dX5_keep_42 ?_
      refine sw_getR X sw_cl5 (show sw_kd 0 = 5 from rfl) (k := 4) rfl (by decide) (o1 := 15) rfl wf_X5_29 dX5_keep_43 ?_
      refine sw_getI X sw_cl4 (show sw_kd 15 = 4 from rfl) (k := 14) rfl (by decide) wf_X5_150 dX5_keep_46 ?_
      exact sw_iret X hr hlk dX5_keep_49 h
    · have h := ite_T h q4
      refine sw_bipush X (v := (-4)) (by decide) dX5_keep_19 ?_
      exact sw_iret X hr hlk dX5_keep_21 h
  · have h := ite_T h q3
    refine sw_iconst X (v := (-1)) (by decide) dX5_keep_7 ?_
    exact sw_iret X hr hlk dX5_keep_8 h
theorem dX5_on_0 : decode cX5_on 0 = .ok (.iload_n 1, 1) := by decide +kernel
theorem dX5_on_1 : decode cX5_on 1 = .ok (.invokestatic 190, 3) := by decide +kernel
theorem dX5_on_4 : decode cX5_on 4 = .ok (.ifCond .ne 5, 3) := by decide +kernel
theorem dX5_on_7 : decode cX5_on 7 = .ok (.iconst (-1), 1) := by decide +kernel
theorem dX5_on_8 : decode cX5_on 8 = .ok (.ireturn, 1) := by decide +kernel
theorem dX5_on_9 : decode cX5_on 9 = .ok (.aload_n 0, 1) := by decide +kernel
theorem dX5_on_10 : decode cX5_on 10 = .ok (.getfield 40, 3) := by decide +kernel
theorem dX5_on_13 : decode cX5_on 13 = .ok (.iload_n 1, 1) := by decide +kernel
theorem dX5_on_14 : decode cX5_on 14 = .ok (.baload, 1) := by decide +kernel
theorem dX5_on_15 : decode cX5_on 15 = .ok (.ifCond .ne 9, 3) := by decide +kernel
theorem dX5_on_18 : decode cX5_on 18 = .ok (.aload_n 0, 1) := by decide +kernel
theorem dX5_on_19 : decode cX5_on 19 = .ok (.iconst 1, 1) := by decide +kernel
theorem dX5_on_20 : decode cX5_on 20 = .ok (.invokevirtual 99, 3) := by decide +kernel
theorem dX5_on_23 : decode cX5_on 23 = .ok (.ireturn, 1) := by decide +kernel
theorem dX5_on_24 : decode cX5_on 24 = .ok (.aload_n 0, 1) := by decide +kernel
theorem dX5_on_25 : decode cX5_on 25 = .ok (.getfield 29, 3) := by decide +kernel
theorem dX5_on_28 : decode cX5_on 28 = .ok (.aload_n 0, 1) := by decide +kernel
theorem dX5_on_29 : decode cX5_on 29 = .ok (.getfield 36, 3) := by decide +kernel
theorem dX5_on_32 : decode cX5_on 32 = .ok (.iload_n 1, 1) := by decide +kernel
theorem dX5_on_33 : decode cX5_on 33 = .ok (.aaload, 1) := by decide +kernel
theorem dX5_on_34 : decode cX5_on 34 = .ok (.invokevirtual 130, 3) := by decide +kernel
theorem dX5_on_37 : decode cX5_on 37 = .ok (.aload_n 0, 1) := by decide +kernel
theorem dX5_on_38 : decode cX5_on 38 = .ok (.getfield 29, 3) := by decide +kernel
theorem dX5_on_41 : decode cX5_on 41 = .ok (.getfield 150, 3) := by decide +kernel
theorem dX5_on_44 : decode cX5_on 44 = .ok (.ireturn, 1) := by decide +kernel
def j_X5_on (F : Nat) (a1 : Int32) (st : sw_St) : Option (Int32 × sw_St) :=
bo (j_X5_isKeep F a1 st) (fun (r2 : Int32) =>
(if r2 = 0 then (
 some (((-1) : Int32), st))
else (
 bnd a1 3 (
 (if (st.1 51 (a1 : Int32).toNatClampNeg) = 0 then (
  bd (j_X5_found F 1 st) (fun (r11 : Int32) (s12 : sw_St) =>
  some ((r11 : Int32), s12)))
 else (
  bnd a1 3 (
  bd (j_X4_takeFrom F 15 (30 + 7 * (a1 : Int32).toNatClampNeg) st) (fun (_ : Unit) (s8 : sw_St) =>
  some ((s8.1 15 14 : Int32), s8)))))))))
set_option maxHeartbeats 4000000 in
set_option maxRecDepth 100000 in
theorem c_X5_on (F : Nat) (a1 : Int32) (st : sw_St) {r : Int32} {st1 : sw_St} (h : j_X5_on F a1 st = some (r, st1)) : sw_CI yX5_on (.code yX5_on cX5_on 2 (some .int)) 2 (fun g => [.ref (g.1 0), .int a1]) st r st1 := by
  refine sw_entI RX5 (fun g => [(0, .ref (g.1 0)), (1, .int a1)]) (by decide) rfl (fun _ => Nat.le_of_ble_eq_true rfl) (fun _ => rfl) ?_
  intro p l e s m args below meth c g X hr hlk
  unfold j_X5_on at h
  refine sw_iload_n X 1 rfl rfl dX5_on_0 ?_
  obtain ⟨r2, c1, h⟩ := bo_E h
  refine sw_callSI X (As := (fun g => [.int a1])) ws_X5_isKeep (by omega) (c_X5_isKeep F a1 st c1) rfl rfl (Nat.le_of_ble_eq_true rfl) wm_X5_190 dX5_on_1 ?_
  refine sw_if_ne X 9 (by decide) dX5_on_4 (fun q3 => ?_) (fun q3 => ?_)
  · have h := ite_F h q3
    refine sw_aload_n X 0 rfl rfl dX5_on_9 ?_
    refine sw_getR X sw_cl5 (show sw_kd 0 = 5 from rfl) (k := 7) rfl (by decide) (o1 := 51) rfl wf_X5_40 dX5_on_10 ?_
    refine sw_iload_n X 1 rfl rfl dX5_on_13 ?_
    obtain ⟨q4, h⟩ := bnd_E h
    refine sw_zald X (show sw_kd 51 = 9 from rfl) (n := 3) rfl q4 dX5_on_14 ?_
    refine sw_if_ne X 24 (by decide) dX5_on_15 (fun q5 => ?_) (fun q5 => ?_)
    · have h := ite_F h q5
      refine sw_aload_n X 0 rfl rfl dX5_on_24 ?_
      refine sw_getR X sw_cl5 (show sw_kd 0 = 5 from rfl) (k := 4) rfl (by decide) (o1 := 15) rfl wf_X5_29 dX5_on_25 ?_
      refine sw_aload_n X 0 rfl rfl dX5_on_28 ?_
      refine sw_getR X sw_cl5 (show sw_kd 0 = 5 from rfl) (k := 6) rfl (by decide) (o1 := 29) rfl wf_X5_36 dX5_on_29 ?_
      refine sw_iload_n X 1 rfl rfl dX5_on_32 ?_
      obtain ⟨q6, h⟩ := bnd_E h
      refine sw_aaldT X (show sw_kd 29 = 10 from rfl) (n := 3) rfl q6 (a1 := 30 + 7 * (a1 : Int32).toNatClampNeg) rfl dX5_on_33 ?_
      obtain ⟨u9, s8, c7, h⟩ := bd_E h
      refine sw_callVV X (o := 15) (As := (fun g => [.ref (g.1 (30 + 7 * (a1 : Int32).toNatClampNeg))])) sw_cl4 (show sw_kd 15 = 4 from rfl) ws_X4_takeFrom (by omega) (c_X4_takeFrom F (show sw_kd 15 = 4 from rfl) (show sw_kd (30 + 7 * (a1 : Int32).toNatClampNeg) = 4 from (sw_kk q6)) st c7) rfl rfl (Nat.le_of_ble_eq_true rfl) wm_X5_130 dX5_on_34 ?_
      refine sw_aload_n X 0 rfl rfl dX5_on_37 ?_
      refine sw_getR X sw_cl5 (show sw_kd 0 = 5 from rfl) (k := 4) rfl (by decide) (o1 := 15) rfl wf_X5_29 dX5_on_38 ?_
      refine sw_getI X sw_cl4 (show sw_kd 15 = 4 from rfl) (k := 14) rfl (by decide) wf_X5_150 dX5_on_41 ?_
      exact sw_iret X hr hlk dX5_on_44 h
    · have h := ite_T h q5
      refine sw_aload_n X 0 rfl rfl dX5_on_18 ?_
      refine sw_iconst X (v := 1) (by decide) dX5_on_19 ?_
      obtain ⟨r11, s12, c10, h⟩ := bd_E h
      refine sw_callVI X (o := 0) (As := (fun g => [.int 1])) sw_cl5 (show sw_kd 0 = 5 from rfl) ws_X5_found (by omega) (c_X5_found F 1 st c10) rfl rfl (Nat.le_of_ble_eq_true rfl) wm_X5_99 dX5_on_20 ?_
      exact sw_iret X hr hlk dX5_on_23 h
  · have h := ite_T h q3
    refine sw_iconst X (v := (-1)) (by decide) dX5_on_7 ?_
    exact sw_iret X hr hlk dX5_on_8 h
theorem dX5_lasts_0 : decode cX5_lasts 0 = .ok (.aload_n 0, 1) := by decide +kernel
theorem dX5_lasts_1 : decode cX5_lasts 1 = .ok (.getfield 29, 3) := by decide +kernel
theorem dX5_lasts_4 : decode cX5_lasts 4 = .ok (.getfield 134, 3) := by decide +kernel
theorem dX5_lasts_7 : decode cX5_lasts 7 = .ok (.ifCond .ne 6, 3) := by decide +kernel
theorem dX5_lasts_10 : decode cX5_lasts 10 = .ok (.bipush (-4), 2) := by decide +kernel
theorem dX5_lasts_12 : decode cX5_lasts 12 = .ok (.ireturn, 1) := by decide +kernel
theorem dX5_lasts_13 : decode cX5_lasts 13 = .ok (.aload_n 0, 1) := by decide +kernel
theorem dX5_lasts_14 : decode cX5_lasts 14 = .ok (.getfield 29, 3) := by decide +kernel
theorem dX5_lasts_17 : decode cX5_lasts 17 = .ok (.aload_n 0, 1) := by decide +kernel
theorem dX5_lasts_18 : decode cX5_lasts 18 = .ok (.getfield 29, 3) := by decide +kernel
theorem dX5_lasts_21 : decode cX5_lasts 21 = .ok (.getfield 166, 3) := by decide +kernel
theorem dX5_lasts_24 : decode cX5_lasts 24 = .ok (.invokevirtual 193, 3) := by decide +kernel
theorem dX5_lasts_27 : decode cX5_lasts 27 = .ok (.istore_n 1, 1) := by decide +kernel
theorem dX5_lasts_28 : decode cX5_lasts 28 = .ok (.aload_n 0, 1) := by decide +kernel
theorem dX5_lasts_29 : decode cX5_lasts 29 = .ok (.iload_n 1, 1) := by decide +kernel
theorem dX5_lasts_30 : decode cX5_lasts 30 = .ok (.ifCond .le 7, 3) := by decide +kernel
theorem dX5_lasts_33 : decode cX5_lasts 33 = .ok (.iconst 1, 1) := by decide +kernel
theorem dX5_lasts_34 : decode cX5_lasts 34 = .ok (.goto 4, 3) := by decide +kernel
theorem dX5_lasts_37 : decode cX5_lasts 37 = .ok (.iconst 0, 1) := by decide +kernel
theorem dX5_lasts_38 : decode cX5_lasts 38 = .ok (.putfield 79, 3) := by decide +kernel
theorem dX5_lasts_41 : decode cX5_lasts 41 = .ok (.iload_n 1, 1) := by decide +kernel
theorem dX5_lasts_42 : decode cX5_lasts 42 = .ok (.ireturn, 1) := by decide +kernel
def j_X5_lasts (F : Nat) (st : sw_St) : Option (Int32 × sw_St) :=
(if (st.1 15 0) = 0 then (
 some (((-4) : Int32), st))
else (
 bo (j_X4_hoursLeft F 15 (st.1 15 7) st) (fun (r3 : Int32) =>
 jn (fun (x4 : Int32) => 
   nm (sw_setC st 0 14 x4) (fun (s7 : sw_St) =>
   some ((r3 : Int32), s7))) (fun k5 =>
  (if r3 ≤ 0 then (
   k5 0)
  else (
   k5 1))))))
set_option maxHeartbeats 4000000 in
set_option maxRecDepth 100000 in
theorem c_X5_lasts (F : Nat) (st : sw_St) {r : Int32} {st1 : sw_St} (h : j_X5_lasts F  st = some (r, st1)) : sw_CI yX5_lasts (.code yX5_lasts cX5_lasts 2 (some .int)) 2 (fun g => [.ref (g.1 0)]) st r st1 := by
  refine sw_entI RX5 (fun g => [(0, .ref (g.1 0))]) (by decide) rfl (fun _ => Nat.le_of_ble_eq_true rfl) (fun _ => rfl) ?_
  intro p l e s m args below meth c g X hr hlk
  unfold j_X5_lasts at h
  refine sw_aload_n X 0 rfl rfl dX5_lasts_0 ?_
  refine sw_getR X sw_cl5 (show sw_kd 0 = 5 from rfl) (k := 4) rfl (by decide) (o1 := 15) rfl wf_X5_29 dX5_lasts_1 ?_
  refine sw_getI X sw_cl4 (show sw_kd 15 = 4 from rfl) (k := 0) rfl (by decide) wf_X5_134 dX5_lasts_4 ?_
  refine sw_if_ne X 13 (by decide) dX5_lasts_7 (fun q1 => ?_) (fun q1 => ?_)
  · have h := ite_F h q1
    refine sw_aload_n X 0 rfl rfl dX5_lasts_13 ?_
    refine sw_getR X sw_cl5 (show sw_kd 0 = 5 from rfl) (k := 4) rfl (by decide) (o1 := 15) rfl wf_X5_29 dX5_lasts_14 ?_
    refine sw_aload_n X 0 rfl rfl dX5_lasts_17 ?_
    refine sw_getR X sw_cl5 (show sw_kd 0 = 5 from rfl) (k := 4) rfl (by decide) (o1 := 15) rfl wf_X5_29 dX5_lasts_18 ?_
    refine sw_getI X sw_cl4 (show sw_kd 15 = 4 from rfl) (k := 7) rfl (by decide) wf_X5_166 dX5_lasts_21 ?_
    obtain ⟨r3, c2, h⟩ := bo_E h
    refine sw_callVI X (o := 15) (As := (fun g => [.int (st.1 15 7)])) sw_cl4 (show sw_kd 15 = 4 from rfl) ws_X4_hoursLeft (by omega) (c_X4_hoursLeft F (show sw_kd 15 = 4 from rfl) (st.1 15 7) st c2) rfl rfl (Nat.le_of_ble_eq_true rfl) wm_X5_193 dX5_lasts_24 ?_
    refine sw_istore_n X [(1, .int r3), (0, .ref (g.1 0))] rfl (by decide) rfl dX5_lasts_27 ?_
    refine sw_aload_n X 1 rfl rfl dX5_lasts_28 ?_
    refine sw_iload_n X 0 rfl rfl dX5_lasts_29 ?_
    refine jn1_E (fun (x4 : Int32) => sw_V p l e 2 s m args below meth c g (sw_A g s.heap.size) (sw_QI below g args s r st1) 2 38 [(1, .int r3)] [.int x4, .ref (g.1 0)] st) h (fun x4 h => ?_) (fun k5 J6 h => ?_)
    · refine sw_putI X sw_cl5 (show sw_kd 0 = 5 from rfl) (k := 14) rfl (by decide) rfl rfl wf_X5_79 dX5_lasts_38 (fun s7 es7 => ?_)
      have h := nm_E h es7
      refine sw_iload_n X 0 rfl rfl dX5_lasts_41 ?_
      exact sw_iret X hr hlk dX5_lasts_42 h
    · refine sw_if_le X 37 (by decide) dX5_lasts_30 (fun q8 => ?_) (fun q8 => ?_)
      · have h := ite_T h q8
        refine sw_iconst X (v := 0) (by decide) dX5_lasts_37 ?_
        refine sw_sub [0] rfl ?_
        exact J6 _ h
      · have h := ite_F h q8
        refine sw_iconst X (v := 1) (by decide) dX5_lasts_33 ?_
        refine sw_goto X 38 (by decide) dX5_lasts_34 ?_
        refine sw_sub [0] rfl ?_
        exact J6 _ h
  · have h := ite_T h q1
    refine sw_bipush X (v := (-4)) (by decide) dX5_lasts_10 ?_
    exact sw_iret X hr hlk dX5_lasts_12 h
theorem dX5_canAllCome_0 : decode cX5_canAllCome 0 = .ok (.aload_n 0, 1) := by decide +kernel
theorem dX5_canAllCome_1 : decode cX5_canAllCome 1 = .ok (.getfield 29, 3) := by decide +kernel
theorem dX5_canAllCome_4 : decode cX5_canAllCome 4 = .ok (.getfield 169, 3) := by decide +kernel
theorem dX5_canAllCome_7 : decode cX5_canAllCome 7 = .ok (.istore_n 3, 1) := by decide +kernel
theorem dX5_canAllCome_8 : decode cX5_canAllCome 8 = .ok (.iconst 0, 1) := by decide +kernel
theorem dX5_canAllCome_9 : decode cX5_canAllCome 9 = .ok (.istore 4, 2) := by decide +kernel
theorem dX5_canAllCome_11 : decode cX5_canAllCome 11 = .ok (.iload 4, 2) := by decide +kernel
theorem dX5_canAllCome_13 : decode cX5_canAllCome 13 = .ok (.aload_n 0, 1) := by decide +kernel
theorem dX5_canAllCome_14 : decode cX5_canAllCome 14 = .ok (.getfield 14, 3) := by decide +kernel
theorem dX5_canAllCome_17 : decode cX5_canAllCome 17 = .ok (.iload_n 1, 1) := by decide +kernel
theorem dX5_canAllCome_18 : decode cX5_canAllCome 18 = .ok (.iaload, 1) := by decide +kernel
theorem dX5_canAllCome_19 : decode cX5_canAllCome 19 = .ok (.if_icmp .ge 65, 3) := by decide +kernel
theorem dX5_canAllCome_22 : decode cX5_canAllCome 22 = .ok (.aload_n 0, 1) := by decide +kernel
theorem dX5_canAllCome_23 : decode cX5_canAllCome 23 = .ok (.getfield 11, 3) := by decide +kernel
theorem dX5_canAllCome_26 : decode cX5_canAllCome 26 = .ok (.iload_n 1, 1) := by decide +kernel
theorem dX5_canAllCome_27 : decode cX5_canAllCome 27 = .ok (.aaload, 1) := by decide +kernel
theorem dX5_canAllCome_28 : decode cX5_canAllCome 28 = .ok (.iload 4, 2) := by decide +kernel
theorem dX5_canAllCome_30 : decode cX5_canAllCome 30 = .ok (.iaload, 1) := by decide +kernel
theorem dX5_canAllCome_31 : decode cX5_canAllCome 31 = .ok (.istore 5, 2) := by decide +kernel
theorem dX5_canAllCome_33 : decode cX5_canAllCome 33 = .ok (.iload_n 2, 1) := by decide +kernel
theorem dX5_canAllCome_34 : decode cX5_canAllCome 34 = .ok (.ifCond .eq 13, 3) := by decide +kernel
theorem dX5_canAllCome_37 : decode cX5_canAllCome 37 = .ok (.iload 5, 2) := by decide +kernel
theorem dX5_canAllCome_39 : decode cX5_canAllCome 39 = .ok (.bipush (-9), 2) := by decide +kernel
theorem dX5_canAllCome_41 : decode cX5_canAllCome 41 = .ok (.if_icmp .ne 6, 3) := by decide +kernel
theorem dX5_canAllCome_44 : decode cX5_canAllCome 44 = .ok (.goto 34, 3) := by decide +kernel
theorem dX5_canAllCome_47 : decode cX5_canAllCome 47 = .ok (.aload_n 0, 1) := by decide +kernel
theorem dX5_canAllCome_48 : decode cX5_canAllCome 48 = .ok (.getfield 29, 3) := by decide +kernel
theorem dX5_canAllCome_51 : decode cX5_canAllCome 51 = .ok (.iload 5, 2) := by decide +kernel
theorem dX5_canAllCome_53 : decode cX5_canAllCome 53 = .ok (.invokevirtual 137, 3) := by decide +kernel
theorem dX5_canAllCome_56 : decode cX5_canAllCome 56 = .ok (.ifCond .eq 13, 3) := by decide +kernel
theorem dX5_canAllCome_59 : decode cX5_canAllCome 59 = .ok (.iload_n 3, 1) := by decide +kernel
theorem dX5_canAllCome_60 : decode cX5_canAllCome 60 = .ok (.iload 5, 2) := by decide +kernel
theorem dX5_canAllCome_62 : decode cX5_canAllCome 62 = .ok (.ishr, 1) := by decide +kernel
theorem dX5_canAllCome_63 : decode cX5_canAllCome 63 = .ok (.iconst 1, 1) := by decide +kernel
theorem dX5_canAllCome_64 : decode cX5_canAllCome 64 = .ok (.iand, 1) := by decide +kernel
theorem dX5_canAllCome_65 : decode cX5_canAllCome 65 = .ok (.iconst 1, 1) := by decide +kernel
theorem dX5_canAllCome_66 : decode cX5_canAllCome 66 = .ok (.if_icmp .ne 5, 3) := by decide +kernel
theorem dX5_canAllCome_69 : decode cX5_canAllCome 69 = .ok (.iconst 0, 1) := by decide +kernel
theorem dX5_canAllCome_70 : decode cX5_canAllCome 70 = .ok (.ireturn, 1) := by decide +kernel
theorem dX5_canAllCome_71 : decode cX5_canAllCome 71 = .ok (.iload_n 3, 1) := by decide +kernel
theorem dX5_canAllCome_72 : decode cX5_canAllCome 72 = .ok (.iconst 1, 1) := by decide +kernel
theorem dX5_canAllCome_73 : decode cX5_canAllCome 73 = .ok (.iload 5, 2) := by decide +kernel
theorem dX5_canAllCome_75 : decode cX5_canAllCome 75 = .ok (.ishl, 1) := by decide +kernel
theorem dX5_canAllCome_76 : decode cX5_canAllCome 76 = .ok (.ior, 1) := by decide +kernel
theorem dX5_canAllCome_77 : decode cX5_canAllCome 77 = .ok (.istore_n 3, 1) := by decide +kernel
theorem dX5_canAllCome_78 : decode cX5_canAllCome 78 = .ok (.iinc 4 1, 3) := by decide +kernel
theorem dX5_canAllCome_81 : decode cX5_canAllCome 81 = .ok (.goto (-70), 3) := by decide +kernel
theorem dX5_canAllCome_84 : decode cX5_canAllCome 84 = .ok (.iconst 1, 1) := by decide +kernel
theorem dX5_canAllCome_85 : decode cX5_canAllCome 85 = .ok (.ireturn, 1) := by decide +kernel
def j_X5_canAllCome (F : Nat) (a1 : Int32) (a2 : Int32) (st : sw_St) : Option Int32 :=
nm (st.1 15 11) (fun (x1 : Int32) =>
lz2 (fun f4 (x2 : Int32) (x3 : Int32) =>
 bnd a1 6 (
 (if (st.1 8 (a1 : Int32).toNatClampNeg) ≤ x3 then (
  some (1 : Int32))
 else (
  bnd a1 6 (
  bnd x3 40 (
  nm (st.1 (2 + (a1 : Int32).toNatClampNeg) (x3 : Int32).toNatClampNeg) (fun (x10 : Int32) =>
  jn (fun (x11 : Int32) => 
    nm (x3 + 1) (fun (x14 : Int32) =>
    f4 x11 x14)) (fun k12 =>
   jn (
     bo (j_X4_has F 15 x10 st) (fun (r18 : Int32) =>
     jn (
       some (0 : Int32)) (fun k19 =>
      (if r18 = 0 then (
       k19)
      else (
       (if ((x2 >>> (x10 &&& 31)) &&& 1) = 1 then (
        k19)
       else (
        nm (x2 ||| (1 <<< (x10 &&& 31))) (fun (x23 : Int32) =>
        k12 x23)))))))) (fun k15 =>
    (if a2 = 0 then (
     k15)
    else (
     (if x10 = (-9) then (
      k12 x2)
     else (
      k15))))))))))))) F x1 0)
set_option maxHeartbeats 4000000 in
set_option maxRecDepth 100000 in
theorem c_X5_canAllCome (F : Nat) (a1 : Int32) (a2 : Int32) (st : sw_St) {r : Int32} (h : j_X5_canAllCome F a1 a2 st = some r) : sw_CI yX5_canAllCome (.code yX5_canAllCome cX5_canAllCome 6 (some .boolean)) 2 (fun g => [.ref (g.1 0), .int a1, .int a2]) st r st := by
  refine sw_entI RX5 (fun g => [(0, .ref (g.1 0)), (1, .int a1), (2, .int a2)]) (by decide) rfl (fun _ => Nat.le_of_ble_eq_true rfl) (fun _ => rfl) ?_
  intro p l e s m args below meth c g X hr hlk
  unfold j_X5_canAllCome at h
  refine sw_aload_n X 0 rfl rfl dX5_canAllCome_0 ?_
  refine sw_getR X sw_cl5 (show sw_kd 0 = 5 from rfl) (k := 4) rfl (by decide) (o1 := 15) rfl wf_X5_29 dX5_canAllCome_1 ?_
  refine sw_getI X sw_cl4 (show sw_kd 15 = 4 from rfl) (k := 11) rfl (by decide) wf_X5_169 dX5_canAllCome_4 ?_
  refine sw_topi (fun x1 ex1 => ?_)
  have h := nm_E h ex1
  refine sw_istore_n X [(3, .int x1), (0, .ref (g.1 0)), (1, .int a1), (2, .int a2)] rfl (by decide) rfl dX5_canAllCome_7 ?_
  refine sw_iconst X (v := 0) (by decide) dX5_canAllCome_8 ?_
  refine sw_istore X [(4, .int 0), (3, .int x1), (0, .ref (g.1 0)), (1, .int a1), (2, .int a2)] (by decide) rfl dX5_canAllCome_9 ?_
  refine sw_sub [2, 3, 4, 1, 0] rfl ?_
  refine lz2_E (fun (x2 : Int32) (x3 : Int32) => sw_V p l e 2 s m args below meth c g (sw_A g s.heap.size) (sw_QI below g args s r st) 6 11 [(0, .ref (g.1 0)), (1, .int a1), (2, .int a2), (3, .int x2), (4, .int x3)] [] st) h (fun f4 ih5 x2 x3 h => ?_)
  refine sw_iload X 4 rfl dX5_canAllCome_11 ?_
  refine sw_aload_n X 0 rfl rfl dX5_canAllCome_13 ?_
  refine sw_getR X sw_cl5 (show sw_kd 0 = 5 from rfl) (k := 1) rfl (by decide) (o1 := 8) rfl wf_X5_14 dX5_canAllCome_14 ?_
  refine sw_iload_n X 1 rfl rfl dX5_canAllCome_17 ?_
  obtain ⟨q6, h⟩ := bnd_E h
  refine sw_iald X (show sw_kd 8 = 8 from rfl) (n := 6) rfl q6 dX5_canAllCome_18 ?_
  refine sw_icmp_ge X 84 (by decide) dX5_canAllCome_19 (fun q7 => ?_) (fun q7 => ?_)
  · have h := ite_T h q7
    refine sw_iconst X (v := 1) (by decide) dX5_canAllCome_84 ?_
    exact sw_zret X hr hlk (Or.inr rfl) dX5_canAllCome_85 (by cases h; rfl)
  · have h := ite_F h q7
    refine sw_aload_n X 0 rfl rfl dX5_canAllCome_22 ?_
    refine sw_getR X sw_cl5 (show sw_kd 0 = 5 from rfl) (k := 0) rfl (by decide) (o1 := 1) rfl wf_X5_11 dX5_canAllCome_23 ?_
    refine sw_iload_n X 1 rfl rfl dX5_canAllCome_26 ?_
    obtain ⟨q8, h⟩ := bnd_E h
    refine sw_aaldI X (show sw_kd 1 = 12 from rfl) (n := 6) rfl q8 (a1 := 2 + (a1 : Int32).toNatClampNeg) rfl dX5_canAllCome_27 ?_
    refine sw_iload X 4 rfl dX5_canAllCome_28 ?_
    obtain ⟨q9, h⟩ := bnd_E h
    refine sw_iald X (show sw_kd (2 + (a1 : Int32).toNatClampNeg) = 8 from (sw_rk q8)) (n := 40) (sw_rn q8) q9 dX5_canAllCome_30 ?_
    refine sw_topi (fun x10 ex10 => ?_)
    have h := nm_E h ex10
    refine sw_istore X [(5, .int x10), (0, .ref (g.1 0)), (1, .int a1), (2, .int a2), (3, .int x2), (4, .int x3)] (by decide) rfl dX5_canAllCome_31 ?_
    refine sw_iload_n X 3 rfl rfl dX5_canAllCome_33 ?_
    refine jn1_E (fun (x11 : Int32) => sw_V p l e 2 s m args below meth c g (sw_A g s.heap.size) (sw_QI below g args s r st) 6 78 [(0, .ref (g.1 0)), (1, .int a1), (2, .int a2), (3, .int x11), (4, .int x3)] [] st) h (fun x11 h => ?_) (fun k12 J13 h => ?_)
    · obtain ⟨x14, ex14⟩ : ∃ y : Int32, y = x3 + 1 := ⟨_, rfl⟩
      have h := nm_E h ex14
      refine sw_iinc X 4 x14 [(4, .int x14), (0, .ref (g.1 0)), (1, .int a1), (2, .int a2), (3, .int x11)] rfl (by rw [ex14]; rfl) (by decide) rfl dX5_canAllCome_78 ?_
      refine sw_goto X 11 (by decide) dX5_canAllCome_81 ?_
      refine sw_sub [1, 2, 3, 4, 0] rfl ?_
      exact ih5 _ _ h
    · refine jn0_E (sw_V p l e 2 s m args below meth c g (sw_A g s.heap.size) (sw_QI below g args s r st) 6 47 [(0, .ref (g.1 0)), (1, .int a1), (2, .int a2), (3, .int x2), (4, .int x3), (5, .int x10)] [] st) h (fun h => ?_) (fun k15 J16 h => ?_)
      · refine sw_aload_n X 0 rfl rfl dX5_canAllCome_47 ?_
        refine sw_getR X sw_cl5 (show sw_kd 0 = 5 from rfl) (k := 4) rfl (by decide) (o1 := 15) rfl wf_X5_29 dX5_canAllCome_48 ?_
        refine sw_iload X 5 rfl dX5_canAllCome_51 ?_
        obtain ⟨r18, c17, h⟩ := bo_E h
        refine sw_callVI X (o := 15) (As := (fun g => [.int x10])) sw_cl4 (show sw_kd 15 = 4 from rfl) ws_X4_has (by omega) (c_X4_has F (show sw_kd 15 = 4 from rfl) x10 st c17) rfl rfl (Nat.le_of_ble_eq_true rfl) wm_X5_137 dX5_canAllCome_53 ?_
        refine jn0_E (sw_V p l e 2 s m args below meth c g (sw_A g s.heap.size) (sw_QI below g args s r st) 6 69 [] [] st) h (fun h => ?_) (fun k19 J20 h => ?_)
        · refine sw_iconst X (v := 0) (by decide) dX5_canAllCome_69 ?_
          exact sw_zret X hr hlk (Or.inl rfl) dX5_canAllCome_70 (by cases h; rfl)
        · refine sw_if_eq X 69 (by decide) dX5_canAllCome_56 (fun q21 => ?_) (fun q21 => ?_)
          · have h := ite_T h q21
            refine sw_sub [] rfl ?_
            exact J20  h
          · have h := ite_F h q21
            refine sw_iload_n X 3 rfl rfl dX5_canAllCome_59 ?_
            refine sw_iload X 5 rfl dX5_canAllCome_60 ?_
            refine sw_ishr X dX5_canAllCome_62 ?_
            refine sw_iconst X (v := 1) (by decide) dX5_canAllCome_63 ?_
            refine sw_iand X dX5_canAllCome_64 ?_
            refine sw_iconst X (v := 1) (by decide) dX5_canAllCome_65 ?_
            refine sw_icmp_ne X 71 (by decide) dX5_canAllCome_66 (fun q22 => ?_) (fun q22 => ?_)
            · have h := ite_F h q22
              refine sw_iload_n X 3 rfl rfl dX5_canAllCome_71 ?_
              refine sw_iconst X (v := 1) (by decide) dX5_canAllCome_72 ?_
              refine sw_iload X 5 rfl dX5_canAllCome_73 ?_
              refine sw_ishl X dX5_canAllCome_75 ?_
              refine sw_ior X dX5_canAllCome_76 ?_
              refine sw_topi (fun x23 ex23 => ?_)
              have h := nm_E h ex23
              refine sw_istore_n X [(3, .int x23), (0, .ref (g.1 0)), (1, .int a1), (2, .int a2), (4, .int x3), (5, .int x10)] rfl (by decide) rfl dX5_canAllCome_77 ?_
              refine sw_sub [1, 2, 3, 0, 4] rfl ?_
              exact J13 _ h
            · have h := ite_T h q22
              refine sw_sub [] rfl ?_
              exact J20  h
      · refine sw_if_eq X 47 (by decide) dX5_canAllCome_34 (fun q24 => ?_) (fun q24 => ?_)
        · have h := ite_T h q24
          refine sw_sub [1, 2, 3, 4, 5, 0] rfl ?_
          exact J16  h
        · have h := ite_F h q24
          refine sw_iload X 0 rfl dX5_canAllCome_37 ?_
          refine sw_bipush X (v := (-9)) (by decide) dX5_canAllCome_39 ?_
          refine sw_icmp_ne X 47 (by decide) dX5_canAllCome_41 (fun q25 => ?_) (fun q25 => ?_)
          · have h := ite_F h q25
            refine sw_sub [1, 2, 3, 4, 5, 0] rfl ?_
            exact J16  h
          · have h := ite_T h q25
            refine sw_goto X 78 (by decide) dX5_canAllCome_44 ?_
            refine sw_sub [1, 2, 3, 4, 5] rfl ?_
            exact J13 _ h
theorem dX5_refusedGuests_0 : decode cX5_refusedGuests 0 = .ok (.iload_n 1, 1) := by decide +kernel
theorem dX5_refusedGuests_1 : decode cX5_refusedGuests 1 = .ok (.invokestatic 95, 3) := by decide +kernel
theorem dX5_refusedGuests_4 : decode cX5_refusedGuests 4 = .ok (.ifCond .ne 5, 3) := by decide +kernel
theorem dX5_refusedGuests_7 : decode cX5_refusedGuests 7 = .ok (.iconst (-1), 1) := by decide +kernel
theorem dX5_refusedGuests_8 : decode cX5_refusedGuests 8 = .ok (.ireturn, 1) := by decide +kernel
theorem dX5_refusedGuests_9 : decode cX5_refusedGuests 9 = .ok (.aload_n 0, 1) := by decide +kernel
theorem dX5_refusedGuests_10 : decode cX5_refusedGuests 10 = .ok (.getfield 29, 3) := by decide +kernel
theorem dX5_refusedGuests_13 : decode cX5_refusedGuests 13 = .ok (.getfield 134, 3) := by decide +kernel
theorem dX5_refusedGuests_16 : decode cX5_refusedGuests 16 = .ok (.ifCond .ne 6, 3) := by decide +kernel
theorem dX5_refusedGuests_19 : decode cX5_refusedGuests 19 = .ok (.bipush (-4), 2) := by decide +kernel
theorem dX5_refusedGuests_21 : decode cX5_refusedGuests 21 = .ok (.ireturn, 1) := by decide +kernel
theorem dX5_refusedGuests_22 : decode cX5_refusedGuests 22 = .ok (.aload_n 0, 1) := by decide +kernel
theorem dX5_refusedGuests_23 : decode cX5_refusedGuests 23 = .ok (.getfield 14, 3) := by decide +kernel
theorem dX5_refusedGuests_26 : decode cX5_refusedGuests 26 = .ok (.iload_n 1, 1) := by decide +kernel
theorem dX5_refusedGuests_27 : decode cX5_refusedGuests 27 = .ok (.iaload, 1) := by decide +kernel
theorem dX5_refusedGuests_28 : decode cX5_refusedGuests 28 = .ok (.ifCond .ge 9, 3) := by decide +kernel
theorem dX5_refusedGuests_31 : decode cX5_refusedGuests 31 = .ok (.aload_n 0, 1) := by decide +kernel
theorem dX5_refusedGuests_32 : decode cX5_refusedGuests 32 = .ok (.iconst 1, 1) := by decide +kernel
theorem dX5_refusedGuests_33 : decode cX5_refusedGuests 33 = .ok (.invokevirtual 99, 3) := by decide +kernel
theorem dX5_refusedGuests_36 : decode cX5_refusedGuests 36 = .ok (.ireturn, 1) := by decide +kernel
theorem dX5_refusedGuests_37 : decode cX5_refusedGuests 37 = .ok (.aload_n 0, 1) := by decide +kernel
theorem dX5_refusedGuests_38 : decode cX5_refusedGuests 38 = .ok (.getfield 14, 3) := by decide +kernel
theorem dX5_refusedGuests_41 : decode cX5_refusedGuests 41 = .ok (.iload_n 1, 1) := by decide +kernel
theorem dX5_refusedGuests_42 : decode cX5_refusedGuests 42 = .ok (.iaload, 1) := by decide +kernel
theorem dX5_refusedGuests_43 : decode cX5_refusedGuests 43 = .ok (.iload_n 2, 1) := by decide +kernel
theorem dX5_refusedGuests_44 : decode cX5_refusedGuests 44 = .ok (.if_icmp .le 9, 3) := by decide +kernel
theorem dX5_refusedGuests_47 : decode cX5_refusedGuests 47 = .ok (.aload_n 0, 1) := by decide +kernel
theorem dX5_refusedGuests_48 : decode cX5_refusedGuests 48 = .ok (.iconst 5, 1) := by decide +kernel
theorem dX5_refusedGuests_49 : decode cX5_refusedGuests 49 = .ok (.invokevirtual 99, 3) := by decide +kernel
theorem dX5_refusedGuests_52 : decode cX5_refusedGuests 52 = .ok (.ireturn, 1) := by decide +kernel
theorem dX5_refusedGuests_53 : decode cX5_refusedGuests 53 = .ok (.aload_n 0, 1) := by decide +kernel
theorem dX5_refusedGuests_54 : decode cX5_refusedGuests 54 = .ok (.iload_n 1, 1) := by decide +kernel
theorem dX5_refusedGuests_55 : decode cX5_refusedGuests 55 = .ok (.iload_n 3, 1) := by decide +kernel
theorem dX5_refusedGuests_56 : decode cX5_refusedGuests 56 = .ok (.invokevirtual 347, 3) := by decide +kernel
theorem dX5_refusedGuests_59 : decode cX5_refusedGuests 59 = .ok (.ifCond .eq 7, 3) := by decide +kernel
theorem dX5_refusedGuests_62 : decode cX5_refusedGuests 62 = .ok (.iconst 0, 1) := by decide +kernel
theorem dX5_refusedGuests_63 : decode cX5_refusedGuests 63 = .ok (.goto 8, 3) := by decide +kernel
theorem dX5_refusedGuests_66 : decode cX5_refusedGuests 66 = .ok (.aload_n 0, 1) := by decide +kernel
theorem dX5_refusedGuests_67 : decode cX5_refusedGuests 67 = .ok (.iconst 3, 1) := by decide +kernel
theorem dX5_refusedGuests_68 : decode cX5_refusedGuests 68 = .ok (.invokevirtual 99, 3) := by decide +kernel
theorem dX5_refusedGuests_71 : decode cX5_refusedGuests 71 = .ok (.ireturn, 1) := by decide +kernel
def j_X5_refusedGuests (F : Nat) (a1 : Int32) (a2 : Int32) (a3 : Int32) (st : sw_St) : Option (Int32 × sw_St) :=
bo (j_X5_isRow F a1 st) (fun (r2 : Int32) =>
(if r2 = 0 then (
 some (((-1) : Int32), st))
else (
 (if (st.1 15 0) = 0 then (
  some (((-4) : Int32), st))
 else (
  bnd a1 6 (
  (if 0 ≤ (st.1 8 (a1 : Int32).toNatClampNeg) then (
   bnd a1 6 (
   (if (st.1 8 (a1 : Int32).toNatClampNeg) ≤ a2 then (
    bo (j_X5_canAllCome F a1 a3 st) (fun (r10 : Int32) =>
    jn (fun (x11 : Int32) (s12 : sw_St) => 
      some ((x11 : Int32), s12)) (fun k13 =>
     (if r10 = 0 then (
      bd (j_X5_found F 3 st) (fun (r17 : Int32) (s18 : sw_St) =>
      k13 r17 s18))
     else (
      k13 0 st)))))
   else (
    bd (j_X5_found F 5 st) (fun (r20 : Int32) (s21 : sw_St) =>
    some ((r20 : Int32), s21))))))
  else (
   bd (j_X5_found F 1 st) (fun (r23 : Int32) (s24 : sw_St) =>
   some ((r23 : Int32), s24))))))))))
set_option maxHeartbeats 4000000 in
set_option maxRecDepth 100000 in
theorem c_X5_refusedGuests (F : Nat) (a1 : Int32) (a2 : Int32) (a3 : Int32) (st : sw_St) {r : Int32} {st1 : sw_St} (h : j_X5_refusedGuests F a1 a2 a3 st = some (r, st1)) : sw_CI yX5_refusedGuests (.code yX5_refusedGuests cX5_refusedGuests 4 (some .int)) 3 (fun g => [.ref (g.1 0), .int a1, .int a2, .int a3]) st r st1 := by
  refine sw_entI RX5 (fun g => [(0, .ref (g.1 0)), (1, .int a1), (2, .int a2), (3, .int a3)]) (by decide) rfl (fun _ => Nat.le_of_ble_eq_true rfl) (fun _ => rfl) ?_
  intro p l e s m args below meth c g X hr hlk
  unfold j_X5_refusedGuests at h
  refine sw_iload_n X 1 rfl rfl dX5_refusedGuests_0 ?_
  obtain ⟨r2, c1, h⟩ := bo_E h
  refine sw_callSI X (As := (fun g => [.int a1])) ws_X5_isRow (by omega) (c_X5_isRow F a1 st c1) rfl rfl (Nat.le_of_ble_eq_true rfl) wm_X5_95 dX5_refusedGuests_1 ?_
  refine sw_if_ne X 9 (by decide) dX5_refusedGuests_4 (fun q3 => ?_) (fun q3 => ?_)
  · have h := ite_F h q3
    refine sw_aload_n X 0 rfl rfl dX5_refusedGuests_9 ?_
    refine sw_getR X sw_cl5 (show sw_kd 0 = 5 from rfl) (k := 4) rfl (by decide) (o1 := 15) rfl wf_X5_29 dX5_refusedGuests_10 ?_
    refine sw_getI X sw_cl4 (show sw_kd 15 = 4 from rfl) (k := 0) rfl (by decide) wf_X5_134 dX5_refusedGuests_13 ?_
    refine sw_if_ne X 22 (by decide) dX5_refusedGuests_16 (fun q4 => ?_) (fun q4 => ?_)
    · have h := ite_F h q4
      refine sw_aload_n X 0 rfl rfl dX5_refusedGuests_22 ?_
      refine sw_getR X sw_cl5 (show sw_kd 0 = 5 from rfl) (k := 1) rfl (by decide) (o1 := 8) rfl wf_X5_14 dX5_refusedGuests_23 ?_
      refine sw_iload_n X 1 rfl rfl dX5_refusedGuests_26 ?_
      obtain ⟨q5, h⟩ := bnd_E h
      refine sw_iald X (show sw_kd 8 = 8 from rfl) (n := 6) rfl q5 dX5_refusedGuests_27 ?_
      refine sw_if_ge X 37 (by decide) dX5_refusedGuests_28 (fun q6 => ?_) (fun q6 => ?_)
      · have h := ite_T h q6
        refine sw_aload_n X 0 rfl rfl dX5_refusedGuests_37 ?_
        refine sw_getR X sw_cl5 (show sw_kd 0 = 5 from rfl) (k := 1) rfl (by decide) (o1 := 8) rfl wf_X5_14 dX5_refusedGuests_38 ?_
        refine sw_iload_n X 1 rfl rfl dX5_refusedGuests_41 ?_
        obtain ⟨q7, h⟩ := bnd_E h
        refine sw_iald X (show sw_kd 8 = 8 from rfl) (n := 6) rfl q7 dX5_refusedGuests_42 ?_
        refine sw_iload_n X 2 rfl rfl dX5_refusedGuests_43 ?_
        refine sw_icmp_le X 53 (by decide) dX5_refusedGuests_44 (fun q8 => ?_) (fun q8 => ?_)
        · have h := ite_T h q8
          refine sw_aload_n X 0 rfl rfl dX5_refusedGuests_53 ?_
          refine sw_iload_n X 1 rfl rfl dX5_refusedGuests_54 ?_
          refine sw_iload_n X 3 rfl rfl dX5_refusedGuests_55 ?_
          obtain ⟨r10, c9, h⟩ := bo_E h
          refine sw_callVI X (o := 0) (As := (fun g => [.int a1, .int a3])) sw_cl5 (show sw_kd 0 = 5 from rfl) ws_X5_canAllCome (by omega) (c_X5_canAllCome F a1 a3 st c9) rfl rfl (Nat.le_of_ble_eq_true rfl) wm_X5_347 dX5_refusedGuests_56 ?_
          refine jn2_E (fun (x11 : Int32) (s12 : sw_St) => sw_V p l e 3 s m args below meth c g (sw_A g s.heap.size) (sw_QI below g args s r st1) 4 71 [] [.int x11] s12) h (fun x11 s12 h => ?_) (fun k13 J14 h => ?_)
          · exact sw_iret X hr hlk dX5_refusedGuests_71 h
          · refine sw_if_eq X 66 (by decide) dX5_refusedGuests_59 (fun q15 => ?_) (fun q15 => ?_)
            · have h := ite_T h q15
              refine sw_aload_n X 0 rfl rfl dX5_refusedGuests_66 ?_
              refine sw_iconst X (v := 3) (by decide) dX5_refusedGuests_67 ?_
              obtain ⟨r17, s18, c16, h⟩ := bd_E h
              refine sw_callVI X (o := 0) (As := (fun g => [.int 3])) sw_cl5 (show sw_kd 0 = 5 from rfl) ws_X5_found (by omega) (c_X5_found F 3 st c16) rfl rfl (Nat.le_of_ble_eq_true rfl) wm_X5_99 dX5_refusedGuests_68 ?_
              refine sw_sub [] rfl ?_
              exact J14 _ _ h
            · have h := ite_F h q15
              refine sw_iconst X (v := 0) (by decide) dX5_refusedGuests_62 ?_
              refine sw_goto X 71 (by decide) dX5_refusedGuests_63 ?_
              refine sw_sub [] rfl ?_
              exact J14 _ _ h
        · have h := ite_F h q8
          refine sw_aload_n X 0 rfl rfl dX5_refusedGuests_47 ?_
          refine sw_iconst X (v := 5) (by decide) dX5_refusedGuests_48 ?_
          obtain ⟨r20, s21, c19, h⟩ := bd_E h
          refine sw_callVI X (o := 0) (As := (fun g => [.int 5])) sw_cl5 (show sw_kd 0 = 5 from rfl) ws_X5_found (by omega) (c_X5_found F 5 st c19) rfl rfl (Nat.le_of_ble_eq_true rfl) wm_X5_99 dX5_refusedGuests_49 ?_
          exact sw_iret X hr hlk dX5_refusedGuests_52 h
      · have h := ite_F h q6
        refine sw_aload_n X 0 rfl rfl dX5_refusedGuests_31 ?_
        refine sw_iconst X (v := 1) (by decide) dX5_refusedGuests_32 ?_
        obtain ⟨r23, s24, c22, h⟩ := bd_E h
        refine sw_callVI X (o := 0) (As := (fun g => [.int 1])) sw_cl5 (show sw_kd 0 = 5 from rfl) ws_X5_found (by omega) (c_X5_found F 1 st c22) rfl rfl (Nat.le_of_ble_eq_true rfl) wm_X5_99 dX5_refusedGuests_33 ?_
        exact sw_iret X hr hlk dX5_refusedGuests_36 h
    · have h := ite_T h q4
      refine sw_bipush X (v := (-4)) (by decide) dX5_refusedGuests_19 ?_
      exact sw_iret X hr hlk dX5_refusedGuests_21 h
  · have h := ite_T h q3
    refine sw_iconst X (v := (-1)) (by decide) dX5_refusedGuests_7 ?_
    exact sw_iret X hr hlk dX5_refusedGuests_8 h
