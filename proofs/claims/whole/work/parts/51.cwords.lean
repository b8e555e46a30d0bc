theorem wo_i : Cond.instanceMethod objectInit ∈ sw_tbl := sw_mem (List.mem_append_right _ (List.mem_append_left _ (List.mem_of_getElem? (i := 18) (by decide +kernel)))) rfl
theorem wo_c : Cond.code objectInit ⟨#[0xb1]⟩ 1 none ∈ sw_tbl := sw_mem (List.mem_append_right _ (List.mem_append_left _ (List.mem_of_getElem? (i := 19) rfl))) rfl
theorem wA_I : Cond.arrayClass .int ∈ sw_tbl := sw_mem (List.mem_append_right _ (List.mem_append_left _ (List.mem_of_getElem? (i := 100) (by decide +kernel)))) rfl
theorem wA_B : Cond.arrayClass .byte ∈ sw_tbl := sw_mem (List.mem_append_right _ (List.mem_append_left _ (List.mem_of_getElem? (i := 101) (by decide +kernel)))) rfl
theorem wA_Z : Cond.arrayClass .boolean ∈ sw_tbl := sw_mem (List.mem_append_right _ (List.mem_append_left _ (List.mem_of_getElem? (i := 119) (by decide +kernel)))) rfl
theorem su_df0 : ∀ j, j < 7 → defaultValue (tyX0 j) = vp_V [.int 0, .int 0, .int 0, .int 0, .int 0, .int 0, .null] j := fun j hj => by
  rcases (show j = 0 ∨ j = 1 ∨ j = 2 ∨ j = 3 ∨ j = 4 ∨ j = 5 ∨ j = 6 by omega) with rfl | rfl | rfl | rfl | rfl | rfl | rfl <;> rfl
theorem su_df1 : ∀ j, j < 8 → defaultValue (tyX1 j) = vp_V [.int 0, .int 0, .null, .null, .int 0, .int 0, .int 0, .int 0] j := fun j hj => by
  rcases (show j = 0 ∨ j = 1 ∨ j = 2 ∨ j = 3 ∨ j = 4 ∨ j = 5 ∨ j = 6 ∨ j = 7 by omega) with rfl | rfl | rfl | rfl | rfl | rfl | rfl | rfl <;> rfl
theorem su_df2 : ∀ j, j < 4 → defaultValue (tyX2 j) = vp_V [.null, .null, .int 0, .int 0] j := fun j hj => by
  rcases (show j = 0 ∨ j = 1 ∨ j = 2 ∨ j = 3 by omega) with rfl | rfl | rfl | rfl <;> rfl
theorem su_df3 : ∀ j, j < 3 → defaultValue (tyX3 j) = vp_V [.null, .int 0, .int 0] j := fun j hj => by
  rcases (show j = 0 ∨ j = 1 ∨ j = 2 by omega) with rfl | rfl | rfl <;> rfl
theorem su_df4 : ∀ j, j < 15 → defaultValue (tyX4 j) = vp_V [.int 0, .null, .null, .null, .null, .int 0, .int 0, .int 0, .int 0, .int 0, .int 0, .int 0, .null, .null, .int 0] j := fun j hj => by
  rcases (show j = 0 ∨ j = 1 ∨ j = 2 ∨ j = 3 ∨ j = 4 ∨ j = 5 ∨ j = 6 ∨ j = 7 ∨ j = 8 ∨ j = 9 ∨ j = 10 ∨ j = 11 ∨ j = 12 ∨ j = 13 ∨ j = 14 by omega) with rfl | rfl | rfl | rfl | rfl | rfl | rfl | rfl | rfl | rfl | rfl | rfl | rfl | rfl | rfl <;> rfl
theorem su_df5 : ∀ j, j < 17 → defaultValue (tyX5 j) = vp_V [.null, .null, .null, .null, .null, .null, .null, .null, .null, .null, .null, .null, .null, .int 0, .int 0, .long 0, .long 0] j := fun j hj => by
  rcases (show j = 0 ∨ j = 1 ∨ j = 2 ∨ j = 3 ∨ j = 4 ∨ j = 5 ∨ j = 6 ∨ j = 7 ∨ j = 8 ∨ j = 9 ∨ j = 10 ∨ j = 11 ∨ j = 12 ∨ j = 13 ∨ j = 14 ∨ j = 15 ∨ j = 16 by omega) with rfl | rfl | rfl | rfl | rfl | rfl | rfl | rfl | rfl | rfl | rfl | rfl | rfl | rfl | rfl | rfl | rfl <;> rfl
theorem su_df6 : ∀ j, j < 29 → defaultValue (tyX6 j) = vp_V [.null, .int 0, .null, .null, .null, .null, .null, .null, .null, .int 0, .long 0, .long 0, .int 0, .null, .int 0, .int 0, .int 0, .int 0, .int 0, .null, .int 0, .int 0, .null, .int 0, .int 0, .int 0, .int 0, .null, .null] j := fun j hj => by
  rcases (show j = 0 ∨ j = 1 ∨ j = 2 ∨ j = 3 ∨ j = 4 ∨ j = 5 ∨ j = 6 ∨ j = 7 ∨ j = 8 ∨ j = 9 ∨ j = 10 ∨ j = 11 ∨ j = 12 ∨ j = 13 ∨ j = 14 ∨ j = 15 ∨ j = 16 ∨ j = 17 ∨ j = 18 ∨ j = 19 ∨ j = 20 ∨ j = 21 ∨ j = 22 ∨ j = 23 ∨ j = 24 ∨ j = 25 ∨ j = 26 ∨ j = 27 ∨ j = 28 by omega) with rfl | rfl | rfl | rfl | rfl | rfl | rfl | rfl | rfl | rfl | rfl | rfl | rfl | rfl | rfl | rfl | rfl | rfl | rfl | rfl | rfl | rfl | rfl | rfl | rfl | rfl | rfl | rfl | rfl <;> rfl
theorem wm_X4_3 : Cond.methodLink RX4 3 objectInit ∈ sw_tbl := sw_mem (List.mem_append_right _ (List.mem_append_left _ (List.mem_of_getElem? (i := 29) (by decide +kernel)))) rfl
theorem wm_X3_3 : Cond.methodLink RX3 3 objectInit ∈ sw_tbl := sw_mem (List.mem_append_right _ (List.mem_append_left _ (List.mem_of_getElem? (i := 108) (by decide +kernel)))) rfl
theorem wm_X1_3 : Cond.methodLink RX1 3 objectInit ∈ sw_tbl := sw_mem (List.mem_append_right _ (List.mem_append_left _ (List.mem_of_getElem? (i := 125) (by decide +kernel)))) rfl
theorem wm_X2_3 : Cond.methodLink RX2 3 objectInit ∈ sw_tbl := sw_mem (List.mem_append_right _ (List.mem_append_left _ (List.mem_of_getElem? (i := 161) (by decide +kernel)))) rfl
theorem wm_X0_3 : Cond.methodLink RX0 3 objectInit ∈ sw_tbl := sw_mem (List.mem_append_right _ (List.mem_append_left _ (List.mem_of_getElem? (i := 183) (by decide +kernel)))) rfl
def su_D0 : va_G := (fun _ => 0, fun _ _ => 0)
def su_st0 : sw_St := (fun i => if i = 8 then (upd (upd (upd (upd (upd (upd (fun _ => 0) 0 (-1)) 1 (-1)) 2 (-1)) 3 (-1)) 4 (-1)) 5 (-1)) else if i = 14 then (upd (upd (upd (upd (fun _ => 0) 0 (-1)) 1 (-1)) 2 (-1)) 3 (-1)) else if i = 54 then (fun k => if k = 5 then -9 else 0) else if i = 60 then (fun k => if k = 1 then -9 else 0) else if i = 64 then (upd (upd (upd (fun _ => 0) 207 (-1)) 414 (-1)) 621 (-1)) else if i = 68 then (upd (upd (upd (upd (upd (upd (fun _ => 0) 0 (-1)) 1 (-1)) 2 (-1)) 3 (-1)) 4 (-1)) 5 (-1)) else if i = 70 then (upd (upd (upd (upd (fun _ => 0) 0 (-1)) 1 (-1)) 2 (-1)) 3 (-1)) else (fun _ => 0),
  fun i k => if i = 0 ∧ k = 16 then 1 else if i = 63 ∧ k = 11 then 1 else 0, 53)
def su_Wc (cy : Nat → ClassId) (u : Nat → Nat) : va_W := (List.range 63).map (fun i => (u i, sw_cell (u, su_D0, cy) su_st0 i))
def su_Wm (cy : Nat → ClassId) (u : Nat → Nat) : va_W := (List.range 14).map (fun j => (u (63 + j), sw_cell (u, su_D0, cy) su_st0 (63 + j)))
theorem wm_X5_1 : Cond.methodLink RX5 1 objectInit ∈ sw_tbl := sw_mem (List.mem_append_right _ (List.mem_append_left _ (List.mem_of_getElem? (i := 17) (by decide +kernel)))) rfl
theorem wx_X5_9 : Cond.classLink RX5 9 "[[I" ∈ sw_tbl := sw_mem (List.mem_append_right _ (List.mem_append_left _ (List.mem_of_getElem? (i := 20) (by decide +kernel)))) rfl
theorem wx_X5_18 : Cond.classLink RX5 18 "[[B" ∈ sw_tbl := sw_mem (List.mem_append_right _ (List.mem_append_left _ (List.mem_of_getElem? (i := 22) (by decide +kernel)))) rfl
theorem wx_X5_26 : Cond.classLink RX5 26 RX4 ∈ sw_tbl := sw_mem (List.mem_append_right _ (List.mem_append_left _ (List.mem_of_getElem? (i := 24) (by decide +kernel)))) rfl
theorem wn_4 : Cond.instantiable RX4 15 ∈ sw_tbl := sw_mem (List.mem_append_right _ (List.mem_append_left _ (List.mem_of_getElem? (i := 25) (by decide +kernel)))) rfl
theorem wm_X5_28 : Cond.methodLink RX5 28 yX4_init ∈ sw_tbl := sw_mem (List.mem_append_right _ (List.mem_append_left _ (List.mem_of_getElem? (i := 26) (by decide +kernel)))) rfl
theorem wk_X4_init : Cond.code yX4_init cX4_init 1 none ∈ sw_tbl := sw_mem (List.mem_append_right _ (List.mem_append_left _ (List.mem_of_getElem? (i := 28) rfl))) rfl
theorem wt_X4_init : Cond.instanceMethod yX4_init ∈ sw_tbl := sw_mem (List.mem_append_right _ (List.mem_append_left _ (List.mem_of_getElem? (i := 27) (by decide +kernel)))) rfl
theorem wx_X5_44 : Cond.classLink RX5 44 RX3 ∈ sw_tbl := sw_mem (List.mem_append_right _ (List.mem_append_left _ (List.mem_of_getElem? (i := 103) (by decide +kernel)))) rfl
theorem wn_3 : Cond.instantiable RX3 3 ∈ sw_tbl := sw_mem (List.mem_append_right _ (List.mem_append_left _ (List.mem_of_getElem? (i := 104) (by decide +kernel)))) rfl
theorem wm_X5_46 : Cond.methodLink RX5 46 yX3_init ∈ sw_tbl := sw_mem (List.mem_append_right _ (List.mem_append_left _ (List.mem_of_getElem? (i := 105) (by decide +kernel)))) rfl
theorem wk_X3_init : Cond.code yX3_init cX3_init 1 none ∈ sw_tbl := sw_mem (List.mem_append_right _ (List.mem_append_left _ (List.mem_of_getElem? (i := 107) rfl))) rfl
theorem wt_X3_init : Cond.instanceMethod yX3_init ∈ sw_tbl := sw_mem (List.mem_append_right _ (List.mem_append_left _ (List.mem_of_getElem? (i := 106) (by decide +kernel)))) rfl
theorem wx_X5_51 : Cond.classLink RX5 51 RX1 ∈ sw_tbl := sw_mem (List.mem_append_right _ (List.mem_append_left _ (List.mem_of_getElem? (i := 120) (by decide +kernel)))) rfl
theorem wn_1 : Cond.instantiable RX1 8 ∈ sw_tbl := sw_mem (List.mem_append_right _ (List.mem_append_left _ (List.mem_of_getElem? (i := 121) (by decide +kernel)))) rfl
theorem wm_X5_53 : Cond.methodLink RX5 53 yX1_init ∈ sw_tbl := sw_mem (List.mem_append_right _ (List.mem_append_left _ (List.mem_of_getElem? (i := 122) (by decide +kernel)))) rfl
theorem wk_X1_init : Cond.code yX1_init cX1_init 1 none ∈ sw_tbl := sw_mem (List.mem_append_right _ (List.mem_append_left _ (List.mem_of_getElem? (i := 124) rfl))) rfl
theorem wt_X1_init : Cond.instanceMethod yX1_init ∈ sw_tbl := sw_mem (List.mem_append_right _ (List.mem_append_left _ (List.mem_of_getElem? (i := 123) (by decide +kernel)))) rfl
theorem wx_X5_58 : Cond.classLink RX5 58 RX2 ∈ sw_tbl := sw_mem (List.mem_append_right _ (List.mem_append_left _ (List.mem_of_getElem? (i := 156) (by decide +kernel)))) rfl
theorem wn_2 : Cond.instantiable RX2 4 ∈ sw_tbl := sw_mem (List.mem_append_right _ (List.mem_append_left _ (List.mem_of_getElem? (i := 157) (by decide +kernel)))) rfl
theorem wm_X5_60 : Cond.methodLink RX5 60 yX2_init ∈ sw_tbl := sw_mem (List.mem_append_right _ (List.mem_append_left _ (List.mem_of_getElem? (i := 158) (by decide +kernel)))) rfl
theorem wk_X2_init : Cond.code yX2_init cX2_init 1 none ∈ sw_tbl := sw_mem (List.mem_append_right _ (List.mem_append_left _ (List.mem_of_getElem? (i := 160) rfl))) rfl
theorem wt_X2_init : Cond.instanceMethod yX2_init ∈ sw_tbl := sw_mem (List.mem_append_right _ (List.mem_append_left _ (List.mem_of_getElem? (i := 159) (by decide +kernel)))) rfl
theorem wx_X5_65 : Cond.classLink RX5 65 RX0 ∈ sw_tbl := sw_mem (List.mem_append_right _ (List.mem_append_left _ (List.mem_of_getElem? (i := 178) (by decide +kernel)))) rfl
theorem wn_0 : Cond.instantiable RX0 7 ∈ sw_tbl := sw_mem (List.mem_append_right _ (List.mem_append_left _ (List.mem_of_getElem? (i := 179) (by decide +kernel)))) rfl
theorem wm_X5_67 : Cond.methodLink RX5 67 yX0_init ∈ sw_tbl := sw_mem (List.mem_append_right _ (List.mem_append_left _ (List.mem_of_getElem? (i := 180) (by decide +kernel)))) rfl
theorem wk_X0_init : Cond.code yX0_init cX0_init 1 none ∈ sw_tbl := sw_mem (List.mem_append_right _ (List.mem_append_left _ (List.mem_of_getElem? (i := 182) rfl))) rfl
theorem wt_X0_init : Cond.instanceMethod yX0_init ∈ sw_tbl := sw_mem (List.mem_append_right _ (List.mem_append_left _ (List.mem_of_getElem? (i := 181) (by decide +kernel)))) rfl
theorem wm_X6_1 : Cond.methodLink RX6 1 objectInit ∈ sw_tbl := sw_mem (List.mem_append_right _ (List.mem_append_right _ (List.mem_append_right _ (List.mem_append_right _ (List.mem_append_left _ (List.mem_of_getElem? (i := 11) (by decide +kernel))))))) rfl
