theorem dX4_carryOut_0 : decode cX4_carryOut 0 = .ok (.iload_n 1, 1) := by decide +kernel
theorem dX4_carryOut_1 : decode cX4_carryOut 1 = .ok (.tableswitch 121 0 2 #[27, 59, 76], 27) := by decide +kernel
theorem dX4_carryOut_28 : decode cX4_carryOut 28 = .ok (.aload_n 0, 1) := by decide +kernel
theorem dX4_carryOut_29 : decode cX4_carryOut 29 = .ok (.aload_n 0, 1) := by decide +kernel
theorem dX4_carryOut_30 : decode cX4_carryOut 30 = .ok (.iload_n 2, 1) := by decide +kernel
theorem dX4_carryOut_31 : decode cX4_carryOut 31 = .ok (.aload_n 0, 1) := by decide +kernel
theorem dX4_carryOut_32 : decode cX4_carryOut 32 = .ok (.getfield 34, 3) := by decide +kernel
theorem dX4_carryOut_35 : decode cX4_carryOut 35 = .ok (.aload_n 0, 1) := by decide +kernel
theorem dX4_carryOut_36 : decode cX4_carryOut 36 = .ok (.getfield 46, 3) := by decide +kernel
theorem dX4_carryOut_39 : decode cX4_carryOut 39 = .ok (.invokevirtual 79, 3) := by decide +kernel
theorem dX4_carryOut_42 : decode cX4_carryOut 42 = .ok (.putfield 34, 3) := by decide +kernel
theorem dX4_carryOut_45 : decode cX4_carryOut 45 = .ok (.aload_n 0, 1) := by decide +kernel
theorem dX4_carryOut_46 : decode cX4_carryOut 46 = .ok (.dup, 1) := by decide +kernel
theorem dX4_carryOut_47 : decode cX4_carryOut 47 = .ok (.getfield 46, 3) := by decide +kernel
theorem dX4_carryOut_50 : decode cX4_carryOut 50 = .ok (.iconst 1, 1) := by decide +kernel
theorem dX4_carryOut_51 : decode cX4_carryOut 51 = .ok (.iload_n 2, 1) := by decide +kernel
theorem dX4_carryOut_52 : decode cX4_carryOut 52 = .ok (.ishl, 1) := by decide +kernel
theorem dX4_carryOut_53 : decode cX4_carryOut 53 = .ok (.ior, 1) := by decide +kernel
theorem dX4_carryOut_54 : decode cX4_carryOut 54 = .ok (.putfield 46, 3) := by decide +kernel
theorem dX4_carryOut_57 : decode cX4_carryOut 57 = .ok (.goto 70, 3) := by decide +kernel
theorem dX4_carryOut_60 : decode cX4_carryOut 60 = .ok (.aload_n 0, 1) := by decide +kernel
theorem dX4_carryOut_61 : decode cX4_carryOut 61 = .ok (.dup, 1) := by decide +kernel
theorem dX4_carryOut_62 : decode cX4_carryOut 62 = .ok (.getfield 46, 3) := by decide +kernel
theorem dX4_carryOut_65 : decode cX4_carryOut 65 = .ok (.iconst 1, 1) := by decide +kernel
theorem dX4_carryOut_66 : decode cX4_carryOut 66 = .ok (.iload_n 2, 1) := by decide +kernel
theorem dX4_carryOut_67 : decode cX4_carryOut 67 = .ok (.ishl, 1) := by decide +kernel
theorem dX4_carryOut_68 : decode cX4_carryOut 68 = .ok (.iconst (-1), 1) := by decide +kernel
theorem dX4_carryOut_69 : decode cX4_carryOut 69 = .ok (.ixor, 1) := by decide +kernel
theorem dX4_carryOut_70 : decode cX4_carryOut 70 = .ok (.iand, 1) := by decide +kernel
theorem dX4_carryOut_71 : decode cX4_carryOut 71 = .ok (.putfield 46, 3) := by decide +kernel
theorem dX4_carryOut_74 : decode cX4_carryOut 74 = .ok (.goto 53, 3) := by decide +kernel
theorem dX4_carryOut_77 : decode cX4_carryOut 77 = .ok (.aload_n 0, 1) := by decide +kernel
theorem dX4_carryOut_78 : decode cX4_carryOut 78 = .ok (.aload_n 0, 1) := by decide +kernel
theorem dX4_carryOut_79 : decode cX4_carryOut 79 = .ok (.aload_n 0, 1) := by decide +kernel
theorem dX4_carryOut_80 : decode cX4_carryOut 80 = .ok (.getfield 34, 3) := by decide +kernel
theorem dX4_carryOut_83 : decode cX4_carryOut 83 = .ok (.ifCond .le 7, 3) := by decide +kernel
theorem dX4_carryOut_86 : decode cX4_carryOut 86 = .ok (.iconst 1, 1) := by decide +kernel
theorem dX4_carryOut_87 : decode cX4_carryOut 87 = .ok (.goto 4, 3) := by decide +kernel
theorem dX4_carryOut_90 : decode cX4_carryOut 90 = .ok (.iconst 0, 1) := by decide +kernel
theorem dX4_carryOut_91 : decode cX4_carryOut 91 = .ok (.invokevirtual 83, 3) := by decide +kernel
theorem dX4_carryOut_94 : decode cX4_carryOut 94 = .ok (.putfield 40, 3) := by decide +kernel
theorem dX4_carryOut_97 : decode cX4_carryOut 97 = .ok (.aload_n 0, 1) := by decide +kernel
theorem dX4_carryOut_98 : decode cX4_carryOut 98 = .ok (.aload_n 0, 1) := by decide +kernel
theorem dX4_carryOut_99 : decode cX4_carryOut 99 = .ok (.aload_n 0, 1) := by decide +kernel
theorem dX4_carryOut_100 : decode cX4_carryOut 100 = .ok (.getfield 34, 3) := by decide +kernel
theorem dX4_carryOut_103 : decode cX4_carryOut 103 = .ok (.invokevirtual 87, 3) := by decide +kernel
theorem dX4_carryOut_106 : decode cX4_carryOut 106 = .ok (.putfield 34, 3) := by decide +kernel
theorem dX4_carryOut_109 : decode cX4_carryOut 109 = .ok (.aload_n 0, 1) := by decide +kernel
theorem dX4_carryOut_110 : decode cX4_carryOut 110 = .ok (.dup, 1) := by decide +kernel
theorem dX4_carryOut_111 : decode cX4_carryOut 111 = .ok (.getfield 43, 3) := by decide +kernel
theorem dX4_carryOut_114 : decode cX4_carryOut 114 = .ok (.iconst 1, 1) := by decide +kernel
theorem dX4_carryOut_115 : decode cX4_carryOut 115 = .ok (.iadd, 1) := by decide +kernel
theorem dX4_carryOut_116 : decode cX4_carryOut 116 = .ok (.putfield 43, 3) := by decide +kernel
theorem dX4_carryOut_119 : decode cX4_carryOut 119 = .ok (.goto 8, 3) := by decide +kernel
theorem dX4_carryOut_122 : decode cX4_carryOut 122 = .ok (.aload_n 0, 1) := by decide +kernel
theorem dX4_carryOut_123 : decode cX4_carryOut 123 = .ok (.iload_n 2, 1) := by decide +kernel
theorem dX4_carryOut_124 : decode cX4_carryOut 124 = .ok (.putfield 37, 3) := by decide +kernel
theorem dX4_carryOut_127 : decode cX4_carryOut 127 = .ok (.return_, 1) := by decide +kernel
def j_X4_carryOut (F : Nat) (t : Nat) (a1 : Int32) (a2 : Int32) (st : sw_St) : Option (Unit × sw_St) :=
jn (fun (s1 : sw_St) => 
  some ((), s1)) (fun k2 =>
 (if a1 = 0 then (
  bo (j_X4_woundBy F t a2 (st.1 t 7) (st.1 t 11) st) (fun (r6 : Int32) =>
  nm (sw_setC st t 7 r6) (fun (s7 : sw_St) =>
  nm (sw_setC s7 t 11 ((s7.1 t 11) ||| (1 <<< (a2 &&& 31)))) (fun (s8 : sw_St) =>
  k2 s8))))
 else (
  (if a1 = 1 then (
   nm (sw_setC st t 11 ((st.1 t 11) &&& ((1 <<< (a2 &&& 31)) ^^^ (-1)))) (fun (s10 : sw_St) =>
   k2 s10))
  else (
   (if a1 = 2 then (
    jn (fun (x12 : Int32) => 
      bo (j_X4_clockAfter F t x12 st) (fun (r16 : Int32) =>
      nm (sw_setC st t 9 r16) (fun (s17 : sw_St) =>
      bo (j_X4_woundNext F t (s17.1 t 7) s17) (fun (r19 : Int32) =>
      nm (sw_setC s17 t 7 r19) (fun (s20 : sw_St) =>
      nm (sw_setC s20 t 10 ((s20.1 t 10) + 1)) (fun (s21 : sw_St) =>
      k2 s21)))))) (fun k13 =>
     (if (st.1 t 7) ≤ 0 then (
      k13 0)
     else (
      k13 1))))
   else (
    nm (sw_setC st t 8 a2) (fun (s23 : sw_St) =>
    k2 s23))))))))
set_option maxHeartbeats 4000000 in
set_option maxRecDepth 100000 in
theorem c_X4_carryOut (F : Nat) {t : Nat} (ht : sw_kd t = 4) (a1 : Int32) (a2 : Int32) (st : sw_St) {st1 : sw_St} (h : j_X4_carryOut F t a1 a2 st = some ((), st1)) : sw_CV yX4_carryOut (.code yX4_carryOut cX4_carryOut 3 none) 5 (fun g => [.ref (g.1 t), .int a1, .int a2]) st  st1 := by
  refine sw_entV RX4 (fun g => [(0, .ref (g.1 t)), (1, .int a1), (2, .int a2)]) (by decide) rfl (fun _ => Nat.le_of_ble_eq_true rfl) (fun _ => rfl) ?_
  intro p l e s m args below meth c g X hr hlk
  unfold j_X4_carryOut at h
  refine sw_iload_n X 1 rfl rfl dX4_carryOut_0 ?_
  refine jn1_E (fun (s1 : sw_St) => sw_V p l e 5 s m args below meth c g (sw_A g s.heap.size) (sw_QV below g args s  st1) 3 127 [] [] s1) h (fun s1 h => ?_) (fun k2 J3 h => ?_)
  · exact sw_vret X hr hlk dX4_carryOut_127 h
  · by_cases q4 : a1 = 0
    · have h := ite_T h q4
      refine sw_tabIn X (k := 0) (off := 27) 28 q4 (by decide) (by decide) (by decide) (by decide) dX4_carryOut_1 ?_
      refine sw_aload_n X 0 rfl rfl dX4_carryOut_28 ?_
      refine sw_aload_n X 0 rfl rfl dX4_carryOut_29 ?_
      refine sw_iload_n X 2 rfl rfl dX4_carryOut_30 ?_
      refine sw_aload_n X 0 rfl rfl dX4_carryOut_31 ?_
      refine sw_getI X sw_cl4 (show sw_kd t = 4 from ht) (k := 7) rfl (by decide) wf_X4_34 dX4_carryOut_32 ?_
      refine sw_aload_n X 0 rfl rfl dX4_carryOut_35 ?_
      refine sw_getI X sw_cl4 (show sw_kd t = 4 from ht) (k := 11) rfl (by decide) wf_X4_46 dX4_carryOut_36 ?_
      obtain ⟨r6, c5, h⟩ := bo_E h
      refine sw_callVI X (o := t) (As := (fun g => [.int a2, .int (st.1 t 7), .int (st.1 t 11)])) sw_cl4 (show sw_kd t = 4 from ht) ws_X4_woundBy (by omega) (c_X4_woundBy F (show sw_kd t = 4 from ht) a2 (st.1 t 7) (st.1 t 11) st c5) rfl rfl (Nat.le_of_ble_eq_true rfl) wm_X4_79 dX4_carryOut_39 ?_
      refine sw_putI X sw_cl4 (show sw_kd t = 4 from ht) (k := 7) rfl (by decide) rfl rfl wf_X4_34 dX4_carryOut_42 (fun s7 es7 => ?_)
      have h := nm_E h es7
      refine sw_aload_n X 0 rfl rfl dX4_carryOut_45 ?_
      refine sw_dup X rfl dX4_carryOut_46 ?_
      refine sw_getI X sw_cl4 (show sw_kd t = 4 from ht) (k := 11) rfl (by decide) wf_X4_46 dX4_carryOut_47 ?_
      refine sw_iconst X (v := 1) (by decide) dX4_carryOut_50 ?_
      refine sw_iload_n X 2 rfl rfl dX4_carryOut_51 ?_
      refine sw_ishl X dX4_carryOut_52 ?_
      refine sw_ior X dX4_carryOut_53 ?_
      refine sw_putI X sw_cl4 (show sw_kd t = 4 from ht) (k := 11) rfl (by decide) rfl rfl wf_X4_46 dX4_carryOut_54 (fun s8 es8 => ?_)
      have h := nm_E h es8
      refine sw_goto X 127 (by decide) dX4_carryOut_57 ?_
      refine sw_sub [] rfl ?_
      exact J3 _ h
    · have h := ite_F h q4
      by_cases q9 : a1 = 1
      · have h := ite_T h q9
        refine sw_tabIn X (k := 1) (off := 59) 60 q9 (by decide) (by decide) (by decide) (by decide) dX4_carryOut_1 ?_
        refine sw_aload_n X 0 rfl rfl dX4_carryOut_60 ?_
        refine sw_dup X rfl dX4_carryOut_61 ?_
        refine sw_getI X sw_cl4 (show sw_kd t = 4 from ht) (k := 11) rfl (by decide) wf_X4_46 dX4_carryOut_62 ?_
        refine sw_iconst X (v := 1) (by decide) dX4_carryOut_65 ?_
        refine sw_iload_n X 2 rfl rfl dX4_carryOut_66 ?_
        refine sw_ishl X dX4_carryOut_67 ?_
        refine sw_iconst X (v := (-1)) (by decide) dX4_carryOut_68 ?_
        refine sw_ixor X dX4_carryOut_69 ?_
        refine sw_iand X dX4_carryOut_70 ?_
        refine sw_putI X sw_cl4 (show sw_kd t = 4 from ht) (k := 11) rfl (by decide) rfl rfl wf_X4_46 dX4_carryOut_71 (fun s10 es10 => ?_)
        have h := nm_E h es10
        refine sw_goto X 127 (by decide) dX4_carryOut_74 ?_
        refine sw_sub [] rfl ?_
        exact J3 _ h
      · have h := ite_F h q9
        by_cases q11 : a1 = 2
        · have h := ite_T h q11
          refine sw_tabIn X (k := 2) (off := 76) 77 q11 (by decide) (by decide) (by decide) (by decide) dX4_carryOut_1 ?_
          refine sw_aload_n X 0 rfl rfl dX4_carryOut_77 ?_
          refine sw_aload_n X 0 rfl rfl dX4_carryOut_78 ?_
          refine sw_aload_n X 0 rfl rfl dX4_carryOut_79 ?_
          refine sw_getI X sw_cl4 (show sw_kd t = 4 from ht) (k := 7) rfl (by decide) wf_X4_34 dX4_carryOut_80 ?_
          refine jn1_E (fun (x12 : Int32) => sw_V p l e 5 s m args below meth c g (sw_A g s.heap.size) (sw_QV below g args s  st1) 3 91 [(0, .ref (g.1 t))] [.int x12, .ref (g.1 t), .ref (g.1 t)] st) h (fun x12 h => ?_) (fun k13 J14 h => ?_)
          · obtain ⟨r16, c15, h⟩ := bo_E h
            refine sw_callVI X (o := t) (As := (fun g => [.int x12])) sw_cl4 (show sw_kd t = 4 from ht) ws_X4_clockAfter (by omega) (c_X4_clockAfter F (show sw_kd t = 4 from ht) x12 st c15) rfl rfl (Nat.le_of_ble_eq_true rfl) wm_X4_83 dX4_carryOut_91 ?_
            refine sw_putI X sw_cl4 (show sw_kd t = 4 from ht) (k := 9) rfl (by decide) rfl rfl wf_X4_40 dX4_carryOut_94 (fun s17 es17 => ?_)
            have h := nm_E h es17
            refine sw_aload_n X 0 rfl rfl dX4_carryOut_97 ?_
            refine sw_aload_n X 0 rfl rfl dX4_carryOut_98 ?_
            refine sw_aload_n X 0 rfl rfl dX4_carryOut_99 ?_
            refine sw_getI X sw_cl4 (show sw_kd t = 4 from ht) (k := 7) rfl (by decide) wf_X4_34 dX4_carryOut_100 ?_
            obtain ⟨r19, c18, h⟩ := bo_E h
            refine sw_callVI X (o := t) (As := (fun g => [.int (s17.1 t 7)])) sw_cl4 (show sw_kd t = 4 from ht) ws_X4_woundNext (by omega) (c_X4_woundNext F (show sw_kd t = 4 from ht) (s17.1 t 7) s17 c18) rfl rfl (Nat.le_of_ble_eq_true rfl) wm_X4_87 dX4_carryOut_103 ?_
            refine sw_putI X sw_cl4 (show sw_kd t = 4 from ht) (k := 7) rfl (by decide) rfl rfl wf_X4_34 dX4_carryOut_106 (fun s20 es20 => ?_)
            have h := nm_E h es20
            refine sw_aload_n X 0 rfl rfl dX4_carryOut_109 ?_
            refine sw_dup X rfl dX4_carryOut_110 ?_
            refine sw_getI X sw_cl4 (show sw_kd t = 4 from ht) (k := 10) rfl (by decide) wf_X4_43 dX4_carryOut_111 ?_
            refine sw_iconst X (v := 1) (by decide) dX4_carryOut_114 ?_
            refine sw_iadd X dX4_carryOut_115 ?_
            refine sw_putI X sw_cl4 (show sw_kd t = 4 from ht) (k := 10) rfl (by decide) rfl rfl wf_X4_43 dX4_carryOut_116 (fun s21 es21 => ?_)
            have h := nm_E h es21
            refine sw_goto X 127 (by decide) dX4_carryOut_119 ?_
            refine sw_sub [] rfl ?_
            exact J3 _ h
          · refine sw_if_le X 90 (by decide) dX4_carryOut_83 (fun q22 => ?_) (fun q22 => ?_)
            · have h := ite_T h q22
              refine sw_iconst X (v := 0) (by decide) dX4_carryOut_90 ?_
              refine sw_sub [0] rfl ?_
              exact J14 _ h
            · have h := ite_F h q22
              refine sw_iconst X (v := 1) (by decide) dX4_carryOut_86 ?_
              refine sw_goto X 91 (by decide) dX4_carryOut_87 ?_
              refine sw_sub [0] rfl ?_
              exact J14 _ h
        · have h := ite_F h q11
          have n0 := lv_neT q4 (show (0 : Int32).toInt = 0 by decide)
          have n1 := lv_neT q9 (show (1 : Int32).toInt = 1 by decide)
          have n2 := lv_neT q11 (show (2 : Int32).toInt = 2 by decide)
          refine sw_tabOut X 122 (by omega) (by decide) dX4_carryOut_1 ?_
          refine sw_aload_n X 0 rfl rfl dX4_carryOut_122 ?_
          refine sw_iload_n X 2 rfl rfl dX4_carryOut_123 ?_
          refine sw_putI X sw_cl4 (show sw_kd t = 4 from ht) (k := 8) rfl (by decide) rfl rfl wf_X4_37 dX4_carryOut_124 (fun s23 es23 => ?_)
          have h := nm_E h es23
          refine sw_sub [] rfl ?_
          exact J3 _ h
theorem dX4_note_0 : decode cX4_note 0 = .ok (.aload_n 0, 1) := by decide +kernel
theorem dX4_note_1 : decode cX4_note 1 = .ok (.iconst 1, 1) := by decide +kernel
theorem dX4_note_2 : decode cX4_note 2 = .ok (.invokevirtual 68, 3) := by decide +kernel
theorem dX4_note_5 : decode cX4_note 5 = .ok (.ifCond .eq 4, 3) := by decide +kernel
theorem dX4_note_8 : decode cX4_note 8 = .ok (.return_, 1) := by decide +kernel
theorem dX4_note_9 : decode cX4_note 9 = .ok (.aload_n 0, 1) := by decide +kernel
theorem dX4_note_10 : decode cX4_note 10 = .ok (.getfield 49, 3) := by decide +kernel
theorem dX4_note_13 : decode cX4_note 13 = .ok (.aload_n 0, 1) := by decide +kernel
theorem dX4_note_14 : decode cX4_note 14 = .ok (.getfield 55, 3) := by decide +kernel
theorem dX4_note_17 : decode cX4_note 17 = .ok (.iload_n 1, 1) := by decide +kernel
theorem dX4_note_18 : decode cX4_note 18 = .ok (.iastore, 1) := by decide +kernel
theorem dX4_note_19 : decode cX4_note 19 = .ok (.aload_n 0, 1) := by decide +kernel
theorem dX4_note_20 : decode cX4_note 20 = .ok (.getfield 52, 3) := by decide +kernel
theorem dX4_note_23 : decode cX4_note 23 = .ok (.aload_n 0, 1) := by decide +kernel
theorem dX4_note_24 : decode cX4_note 24 = .ok (.getfield 55, 3) := by decide +kernel
theorem dX4_note_27 : decode cX4_note 27 = .ok (.iload_n 2, 1) := by decide +kernel
theorem dX4_note_28 : decode cX4_note 28 = .ok (.iastore, 1) := by decide +kernel
theorem dX4_note_29 : decode cX4_note 29 = .ok (.aload_n 0, 1) := by decide +kernel
theorem dX4_note_30 : decode cX4_note 30 = .ok (.dup, 1) := by decide +kernel
theorem dX4_note_31 : decode cX4_note 31 = .ok (.getfield 55, 3) := by decide +kernel
theorem dX4_note_34 : decode cX4_note 34 = .ok (.iconst 1, 1) := by decide +kernel
theorem dX4_note_35 : decode cX4_note 35 = .ok (.iadd, 1) := by decide +kernel
theorem dX4_note_36 : decode cX4_note 36 = .ok (.putfield 55, 3) := by decide +kernel
theorem dX4_note_39 : decode cX4_note 39 = .ok (.aload_n 0, 1) := by decide +kernel
theorem dX4_note_40 : decode cX4_note 40 = .ok (.iload_n 1, 1) := by decide +kernel
theorem dX4_note_41 : decode cX4_note 41 = .ok (.iload_n 2, 1) := by decide +kernel
theorem dX4_note_42 : decode cX4_note 42 = .ok (.invokevirtual 72, 3) := by decide +kernel
theorem dX4_note_45 : decode cX4_note 45 = .ok (.return_, 1) := by decide +kernel
def j_X4_note (F : Nat) (t : Nat) (a1 : Int32) (a2 : Int32) (st : sw_St) : Option (Unit × sw_St) :=
bo (j_X4_isFull F t 1 st) (fun (r2 : Int32) =>
(if r2 = 0 then (
 bnd (st.1 t 14) 40 (
 nm (sw_setC st (t + 5) ((st.1 t 14) : Int32).toNatClampNeg a1) (fun (s5 : sw_St) =>
 bnd (s5.1 t 14) 40 (
 nm (sw_setC s5 (t + 6) ((s5.1 t 14) : Int32).toNatClampNeg a2) (fun (s7 : sw_St) =>
 nm (sw_setC s7 t 14 ((s7.1 t 14) + 1)) (fun (s8 : sw_St) =>
 bd (j_X4_carryOut F t a1 a2 s8) (fun (_ : Unit) (s10 : sw_St) =>
 some ((), s10))))))))
else (
 some ((), st))))
set_option maxHeartbeats 4000000 in
set_option maxRecDepth 100000 in
theorem c_X4_note (F : Nat) {t : Nat} (ht : sw_kd t = 4) (a1 : Int32) (a2 : Int32) (st : sw_St) {st1 : sw_St} (h : j_X4_note F t a1 a2 st = some ((), st1)) : sw_CV yX4_note (.code yX4_note cX4_note 3 none) 6 (fun g => [.ref (g.1 t), .int a1, .int a2]) st  st1 := by
  refine sw_entV RX4 (fun g => [(0, .ref (g.1 t)), (1, .int a1), (2, .int a2)]) (by decide) rfl (fun _ => Nat.le_of_ble_eq_true rfl) (fun _ => rfl) ?_
  intro p l e s m args below meth c g X hr hlk
  unfold j_X4_note at h
  refine sw_aload_n X 0 rfl rfl dX4_note_0 ?_
  refine sw_iconst X (v := 1) (by decide) dX4_note_1 ?_
  obtain ⟨r2, c1, h⟩ := bo_E h
  refine sw_callVI X (o := t) (As := (fun g => [.int 1])) sw_cl4 (show sw_kd t = 4 from ht) ws_X4_isFull (by omega) (c_X4_isFull F (show sw_kd t = 4 from ht) 1 st c1) rfl rfl (Nat.le_of_ble_eq_true rfl) wm_X4_68 dX4_note_2 ?_
  refine sw_if_eq X 9 (by decide) dX4_note_5 (fun q3 => ?_) (fun q3 => ?_)
  · have h := ite_T h q3
    refine sw_aload_n X 0 rfl rfl dX4_note_9 ?_
    refine sw_getR X sw_cl4 (show sw_kd t = 4 from ht) (k := 12) rfl (by decide) (o1 := t + 5) (sw_rfT st ht : sw_rf st t 12 = t + 5) wf_X4_49 dX4_note_10 ?_
    refine sw_aload_n X 0 rfl rfl dX4_note_13 ?_
    refine sw_getI X sw_cl4 (show sw_kd t = 4 from ht) (k := 14) rfl (by decide) wf_X4_55 dX4_note_14 ?_
    refine sw_iload_n X 1 rfl rfl dX4_note_17 ?_
    obtain ⟨q4, h⟩ := bnd_E h
    refine sw_iast X (show sw_kd (t + 5) = 8 from (sw_tk5 ht)) (n := 40) (sw_tn5 ht) q4 dX4_note_18 (fun s5 es5 => ?_)
    have h := nm_E h es5
    refine sw_aload_n X 0 rfl rfl dX4_note_19 ?_
    refine sw_getR X sw_cl4 (show sw_kd t = 4 from ht) (k := 13) rfl (by decide) (o1 := t + 6) (sw_rfT s5 ht : sw_rf s5 t 13 = t + 6) wf_X4_52 dX4_note_20 ?_
    refine sw_aload_n X 0 rfl rfl dX4_note_23 ?_
    refine sw_getI X sw_cl4 (show sw_kd t = 4 from ht) (k := 14) rfl (by decide) wf_X4_55 dX4_note_24 ?_
    refine sw_iload_n X 2 rfl rfl dX4_note_27 ?_
    obtain ⟨q6, h⟩ := bnd_E h
    refine sw_iast X (show sw_kd (t + 6) = 8 from (sw_tk6 ht)) (n := 40) (sw_tn6 ht) q6 dX4_note_28 (fun s7 es7 => ?_)
    have h := nm_E h es7
    refine sw_aload_n X 0 rfl rfl dX4_note_29 ?_
    refine sw_dup X rfl dX4_note_30 ?_
    refine sw_getI X sw_cl4 (show sw_kd t = 4 from ht) (k := 14) rfl (by decide) wf_X4_55 dX4_note_31 ?_
    refine sw_iconst X (v := 1) (by decide) dX4_note_34 ?_
    refine sw_iadd X dX4_note_35 ?_
    refine sw_putI X sw_cl4 (show sw_kd t = 4 from ht) (k := 14) rfl (by decide) rfl rfl wf_X4_55 dX4_note_36 (fun s8 es8 => ?_)
    have h := nm_E h es8
    refine sw_aload_n X 0 rfl rfl dX4_note_39 ?_
    refine sw_iload_n X 1 rfl rfl dX4_note_40 ?_
    refine sw_iload_n X 2 rfl rfl dX4_note_41 ?_
    obtain ⟨u11, s10, c9, h⟩ := bd_E h
    refine sw_callVV X (o := t) (As := (fun g => [.int a1, .int a2])) sw_cl4 (show sw_kd t = 4 from ht) ws_X4_carryOut (by omega) (c_X4_carryOut F (show sw_kd t = 4 from ht) a1 a2 s8 c9) rfl rfl (Nat.le_of_ble_eq_true rfl) wm_X4_72 dX4_note_42 ?_
    exact sw_vret X hr hlk dX4_note_45 h
  · have h := ite_F h q3
    exact sw_vret X hr hlk dX4_note_8 h
theorem dX4_redo_0 : decode cX4_redo 0 = .ok (.aload_n 0, 1) := by decide +kernel
theorem dX4_redo_1 : decode cX4_redo 1 = .ok (.invokevirtual 76, 3) := by decide +kernel
theorem dX4_redo_4 : decode cX4_redo 4 = .ok (.iconst 0, 1) := by decide +kernel
theorem dX4_redo_5 : decode cX4_redo 5 = .ok (.istore_n 2, 1) := by decide +kernel
theorem dX4_redo_6 : decode cX4_redo 6 = .ok (.iload_n 2, 1) := by decide +kernel
theorem dX4_redo_7 : decode cX4_redo 7 = .ok (.iload_n 1, 1) := by decide +kernel
theorem dX4_redo_8 : decode cX4_redo 8 = .ok (.if_icmp .ge 25, 3) := by decide +kernel
theorem dX4_redo_11 : decode cX4_redo 11 = .ok (.aload_n 0, 1) := by decide +kernel
theorem dX4_redo_12 : decode cX4_redo 12 = .ok (.aload_n 0, 1) := by decide +kernel
theorem dX4_redo_13 : decode cX4_redo 13 = .ok (.getfield 49, 3) := by decide +kernel
theorem dX4_redo_16 : decode cX4_redo 16 = .ok (.iload_n 2, 1) := by decide +kernel
theorem dX4_redo_17 : decode cX4_redo 17 = .ok (.iaload, 1) := by decide +kernel
theorem dX4_redo_18 : decode cX4_redo 18 = .ok (.aload_n 0, 1) := by decide +kernel
theorem dX4_redo_19 : decode cX4_redo 19 = .ok (.getfield 52, 3) := by decide +kernel
theorem dX4_redo_22 : decode cX4_redo 22 = .ok (.iload_n 2, 1) := by decide +kernel
theorem dX4_redo_23 : decode cX4_redo 23 = .ok (.iaload, 1) := by decide +kernel
theorem dX4_redo_24 : decode cX4_redo 24 = .ok (.invokevirtual 72, 3) := by decide +kernel
theorem dX4_redo_27 : decode cX4_redo 27 = .ok (.iinc 2 1, 3) := by decide +kernel
theorem dX4_redo_30 : decode cX4_redo 30 = .ok (.goto (-24), 3) := by decide +kernel
theorem dX4_redo_33 : decode cX4_redo 33 = .ok (.aload_n 0, 1) := by decide +kernel
theorem dX4_redo_34 : decode cX4_redo 34 = .ok (.iload_n 1, 1) := by decide +kernel
theorem dX4_redo_35 : decode cX4_redo 35 = .ok (.putfield 55, 3) := by decide +kernel
theorem dX4_redo_38 : decode cX4_redo 38 = .ok (.return_, 1) := by decide +kernel
def j_X4_redo (F : Nat) (t : Nat) (a1 : Int32) (st : sw_St) : Option (Unit × sw_St) :=
bd (j_X4_begin F t st) (fun (_ : Unit) (s2 : sw_St) =>
lz2 (fun f5 (x3 : Int32) (s4 : sw_St) =>
 (if a1 ≤ x3 then (
  nm (sw_setC s4 t 14 a1) (fun (s8 : sw_St) =>
  some ((), s8)))
 else (
  bnd x3 40 (
  bnd x3 40 (
  bd (j_X4_carryOut F t (s4.1 (t + 5) (x3 : Int32).toNatClampNeg) (s4.1 (t + 6) (x3 : Int32).toNatClampNeg) s4) (fun (_ : Unit) (s12 : sw_St) =>
  nm (x3 + 1) (fun (x13 : Int32) =>
  f5 x13 s12))))))) F 0 s2)
set_option maxHeartbeats 4000000 in
set_option maxRecDepth 100000 in
theorem c_X4_redo (F : Nat) {t : Nat} (ht : sw_kd t = 4) (a1 : Int32) (st : sw_St) {st1 : sw_St} (h : j_X4_redo F t a1 st = some ((), st1)) : sw_CV yX4_redo (.code yX4_redo cX4_redo 3 none) 6 (fun g => [.ref (g.1 t), .int a1]) st  st1 := by
  refine sw_entV RX4 (fun g => [(0, .ref (g.1 t)), (1, .int a1)]) (by decide) rfl (fun _ => Nat.le_of_ble_eq_true rfl) (fun _ => rfl) ?_
  intro p l e s m args below meth c g X hr hlk
  unfold j_X4_redo at h
  refine sw_aload_n X 0 rfl rfl dX4_redo_0 ?_
  obtain ⟨u15, s2, c1, h⟩ := bd_E h
  refine sw_callVV X (o := t) (As := (fun g => [])) sw_cl4 (show sw_kd t = 4 from ht) ws_X4_begin (by omega) (c_X4_begin F (show sw_kd t = 4 from ht) st c1) rfl rfl (Nat.le_of_ble_eq_true rfl) wm_X4_76 dX4_redo_1 ?_
  refine sw_iconst X (v := 0) (by decide) dX4_redo_4 ?_
  refine sw_istore_n X [(2, .int 0), (0, .ref (g.1 t)), (1, .int a1)] rfl (by decide) rfl dX4_redo_5 ?_
  refine sw_sub [1, 2, 0] rfl ?_
  refine lz2_E (fun (x3 : Int32) (s4 : sw_St) => sw_V p l e 6 s m args below meth c g (sw_A g s.heap.size) (sw_QV below g args s  st1) 3 6 [(0, .ref (g.1 t)), (1, .int a1), (2, .int x3)] [] s4) h (fun f5 ih6 x3 s4 h => ?_)
  refine sw_iload_n X 2 rfl rfl dX4_redo_6 ?_
  refine sw_iload_n X 1 rfl rfl dX4_redo_7 ?_
  refine sw_icmp_ge X 33 (by decide) dX4_redo_8 (fun q7 => ?_) (fun q7 => ?_)
  · have h := ite_T h q7
    refine sw_aload_n X 0 rfl rfl dX4_redo_33 ?_
    refine sw_iload_n X 1 rfl rfl dX4_redo_34 ?_
    refine sw_putI X sw_cl4 (show sw_kd t = 4 from ht) (k := 14) rfl (by decide) rfl rfl wf_X4_55 dX4_redo_35 (fun s8 es8 => ?_)
    have h := nm_E h es8
    exact sw_vret X hr hlk dX4_redo_38 h
  · have h := ite_F h q7
    refine sw_aload_n X 0 rfl rfl dX4_redo_11 ?_
    refine sw_aload_n X 0 rfl rfl dX4_redo_12 ?_
    refine sw_getR X sw_cl4 (show sw_kd t = 4 from ht) (k := 12) rfl (by decide) (o1 := t + 5) (sw_rfT s4 ht : sw_rf s4 t 12 = t + 5) wf_X4_49 dX4_redo_13 ?_
    refine sw_iload_n X 2 rfl rfl dX4_redo_16 ?_
    obtain ⟨q9, h⟩ := bnd_E h
    refine sw_iald X (show sw_kd (t + 5) = 8 from (sw_tk5 ht)) (n := 40) (sw_tn5 ht) q9 dX4_redo_17 ?_
    refine sw_aload_n X 0 rfl rfl dX4_redo_18 ?_
    refine sw_getR X sw_cl4 (show sw_kd t = 4 from ht) (k := 13) rfl (by decide) (o1 := t + 6) (sw_rfT s4 ht : sw_rf s4 t 13 = t + 6) wf_X4_52 dX4_redo_19 ?_
    refine sw_iload_n X 2 rfl rfl dX4_redo_22 ?_
    obtain ⟨q10, h⟩ := bnd_E h
    refine sw_iald X (show sw_kd (t + 6) = 8 from (sw_tk6 ht)) (n := 40) (sw_tn6 ht) q10 dX4_redo_23 ?_
    obtain ⟨u14, s12, c11, h⟩ := bd_E h
    refine sw_callVV X (o := t) (As := (fun g => [.int (s4.1 (t + 5) (x3 : Int32).toNatClampNeg), .int (s4.1 (t + 6) (x3 : Int32).toNatClampNeg)])) sw_cl4 (show sw_kd t = 4 from ht) ws_X4_carryOut (by omega) (c_X4_carryOut F (show sw_kd t = 4 from ht) (s4.1 (t + 5) (x3 : Int32).toNatClampNeg) (s4.1 (t + 6) (x3 : Int32).toNatClampNeg) s4 c11) rfl rfl (Nat.le_of_ble_eq_true rfl) wm_X4_72 dX4_redo_24 ?_
    obtain ⟨x13, ex13⟩ : ∃ y : Int32, y = x3 + 1 := ⟨_, rfl⟩
    have h := nm_E h ex13
    refine sw_iinc X 2 x13 [(2, .int x13), (0, .ref (g.1 t)), (1, .int a1)] rfl (by rw [ex13]; rfl) (by decide) rfl dX4_redo_27 ?_
    refine sw_goto X 6 (by decide) dX4_redo_30 ?_
    refine sw_sub [1, 2, 0] rfl ?_
    exact ih6 _ _ h
theorem dX4_trait_0 : decode cX4_trait 0 = .ok (.iload_n 2, 1) := by decide +kernel
theorem dX4_trait_1 : decode cX4_trait 1 = .ok (.tableswitch 77 0 4 #[35, 42, 49, 56, 63], 35) := by decide +kernel
theorem dX4_trait_36 : decode cX4_trait 36 = .ok (.aload_n 0, 1) := by decide +kernel
theorem dX4_trait_37 : decode cX4_trait 37 = .ok (.getfield 15, 3) := by decide +kernel
theorem dX4_trait_40 : decode cX4_trait 40 = .ok (.iload_n 1, 1) := by decide +kernel
theorem dX4_trait_41 : decode cX4_trait 41 = .ok (.iaload, 1) := by decide +kernel
theorem dX4_trait_42 : decode cX4_trait 42 = .ok (.ireturn, 1) := by decide +kernel
theorem dX4_trait_43 : decode cX4_trait 43 = .ok (.aload_n 0, 1) := by decide +kernel
theorem dX4_trait_44 : decode cX4_trait 44 = .ok (.getfield 19, 3) := by decide +kernel
theorem dX4_trait_47 : decode cX4_trait 47 = .ok (.iload_n 1, 1) := by decide +kernel
theorem dX4_trait_48 : decode cX4_trait 48 = .ok (.iaload, 1) := by decide +kernel
theorem dX4_trait_49 : decode cX4_trait 49 = .ok (.ireturn, 1) := by decide +kernel
theorem dX4_trait_50 : decode cX4_trait 50 = .ok (.aload_n 0, 1) := by decide +kernel
theorem dX4_trait_51 : decode cX4_trait 51 = .ok (.getfield 22, 3) := by decide +kernel
theorem dX4_trait_54 : decode cX4_trait 54 = .ok (.iload_n 1, 1) := by decide +kernel
theorem dX4_trait_55 : decode cX4_trait 55 = .ok (.iaload, 1) := by decide +kernel
theorem dX4_trait_56 : decode cX4_trait 56 = .ok (.ireturn, 1) := by decide +kernel
theorem dX4_trait_57 : decode cX4_trait 57 = .ok (.aload_n 0, 1) := by decide +kernel
theorem dX4_trait_58 : decode cX4_trait 58 = .ok (.getfield 25, 3) := by decide +kernel
theorem dX4_trait_61 : decode cX4_trait 61 = .ok (.iload_n 1, 1) := by decide +kernel
theorem dX4_trait_62 : decode cX4_trait 62 = .ok (.iaload, 1) := by decide +kernel
theorem dX4_trait_63 : decode cX4_trait 63 = .ok (.ireturn, 1) := by decide +kernel
theorem dX4_trait_64 : decode cX4_trait 64 = .ok (.aload_n 0, 1) := by decide +kernel
theorem dX4_trait_65 : decode cX4_trait 65 = .ok (.iload_n 1, 1) := by decide +kernel
theorem dX4_trait_66 : decode cX4_trait 66 = .ok (.invokevirtual 94, 3) := by decide +kernel
theorem dX4_trait_69 : decode cX4_trait 69 = .ok (.ifCond .eq 7, 3) := by decide +kernel
theorem dX4_trait_72 : decode cX4_trait 72 = .ok (.iconst 1, 1) := by decide +kernel
theorem dX4_trait_73 : decode cX4_trait 73 = .ok (.goto 4, 3) := by decide +kernel
theorem dX4_trait_76 : decode cX4_trait 76 = .ok (.iconst 0, 1) := by decide +kernel
theorem dX4_trait_77 : decode cX4_trait 77 = .ok (.ireturn, 1) := by decide +kernel
theorem dX4_trait_78 : decode cX4_trait 78 = .ok (.aload_n 0, 1) := by decide +kernel
theorem dX4_trait_79 : decode cX4_trait 79 = .ok (.iload_n 1, 1) := by decide +kernel
theorem dX4_trait_80 : decode cX4_trait 80 = .ok (.aload_n 0, 1) := by decide +kernel
theorem dX4_trait_81 : decode cX4_trait 81 = .ok (.getfield 34, 3) := by decide +kernel
theorem dX4_trait_84 : decode cX4_trait 84 = .ok (.aload_n 0, 1) := by decide +kernel
theorem dX4_trait_85 : decode cX4_trait 85 = .ok (.getfield 46, 3) := by decide +kernel
theorem dX4_trait_88 : decode cX4_trait 88 = .ok (.invokevirtual 97, 3) := by decide +kernel
theorem dX4_trait_91 : decode cX4_trait 91 = .ok (.ireturn, 1) := by decide +kernel
def j_X4_trait (F : Nat) (t : Nat) (a1 : Int32) (a2 : Int32) (st : sw_St) : Option Int32 :=
(if a2 = 0 then (
 bnd a1 6 (
 some (st.1 (t + 1) (a1 : Int32).toNatClampNeg : Int32)))
else (
 (if a2 = 1 then (
  bnd a1 6 (
  some (st.1 (t + 2) (a1 : Int32).toNatClampNeg : Int32)))
 else (
  (if a2 = 2 then (
   bnd a1 6 (
   some (st.1 (t + 3) (a1 : Int32).toNatClampNeg : Int32)))
  else (
   (if a2 = 3 then (
    bnd a1 6 (
    some (st.1 (t + 4) (a1 : Int32).toNatClampNeg : Int32)))
   else (
    (if a2 = 4 then (
     bo (j_X4_isIn F t a1 st) (fun (r11 : Int32) =>
     jn (fun (x12 : Int32) => 
       some (x12 : Int32)) (fun k13 =>
      (if r11 = 0 then (
       k13 0)
      else (
       k13 1)))))
    else (
     bo (j_X4_turns F t a1 (st.1 t 7) (st.1 t 11) st) (fun (r17 : Int32) =>
     some (r17 : Int32))))))))))))
set_option maxHeartbeats 4000000 in
set_option maxRecDepth 100000 in
theorem c_X4_trait (F : Nat) {t : Nat} (ht : sw_kd t = 4) (a1 : Int32) (a2 : Int32) (st : sw_St) {r : Int32} (h : j_X4_trait F t a1 a2 st = some r) : sw_CI yX4_trait (.code yX4_trait cX4_trait 3 (some .int)) 4 (fun g => [.ref (g.1 t), .int a1, .int a2]) st r st := by
  refine sw_entI RX4 (fun g => [(0, .ref (g.1 t)), (1, .int a1), (2, .int a2)]) (by decide) rfl (fun _ => Nat.le_of_ble_eq_true rfl) (fun _ => rfl) ?_
  intro p l e s m args below meth c g X hr hlk
  unfold j_X4_trait at h
  refine sw_iload_n X 2 rfl rfl dX4_trait_0 ?_
  by_cases q1 : a2 = 0
  · have h := ite_T h q1
    refine sw_tabIn X (k := 0) (off := 35) 36 q1 (by decide) (by decide) (by decide) (by decide) dX4_trait_1 ?_
    refine sw_aload_n X 0 rfl rfl dX4_trait_36 ?_
    refine sw_getR X sw_cl4 (show sw_kd t = 4 from ht) (k := 1) rfl (by decide) (o1 := t + 1) (sw_rfT st ht : sw_rf st t 1 = t + 1) wf_X4_15 dX4_trait_37 ?_
    refine sw_iload_n X 1 rfl rfl dX4_trait_40 ?_
    obtain ⟨q2, h⟩ := bnd_E h
    refine sw_iald X (show sw_kd (t + 1) = 8 from (sw_tk1 ht)) (n := 6) (sw_tn1 ht) q2 dX4_trait_41 ?_
    exact sw_iret X hr hlk dX4_trait_42 (by cases h; rfl)
  · have h := ite_F h q1
    by_cases q3 : a2 = 1
    · have h := ite_T h q3
      refine sw_tabIn X (k := 1) (off := 42) 43 q3 (by decide) (by decide) (by decide) (by decide) dX4_trait_1 ?_
      refine sw_aload_n X 0 rfl rfl dX4_trait_43 ?_
      refine sw_getR X sw_cl4 (show sw_kd t = 4 from ht) (k := 2) rfl (by decide) (o1 := t + 2) (sw_rfT st ht : sw_rf st t 2 = t + 2) wf_X4_19 dX4_trait_44 ?_
      refine sw_iload_n X 1 rfl rfl dX4_trait_47 ?_
      obtain ⟨q4, h⟩ := bnd_E h
      refine sw_iald X (show sw_kd (t + 2) = 8 from (sw_tk2 ht)) (n := 6) (sw_tn2 ht) q4 dX4_trait_48 ?_
      exact sw_iret X hr hlk dX4_trait_49 (by cases h; rfl)
    · have h := ite_F h q3
      by_cases q5 : a2 = 2
      · have h := ite_T h q5
        refine sw_tabIn X (k := 2) (off := 49) 50 q5 (by decide) (by decide) (by decide) (by decide) dX4_trait_1 ?_
        refine sw_aload_n X 0 rfl rfl dX4_trait_50 ?_
        refine sw_getR X sw_cl4 (show sw_kd t = 4 from ht) (k := 3) rfl (by decide) (o1 := t + 3) (sw_rfT st ht : sw_rf st t 3 = t + 3) wf_X4_22 dX4_trait_51 ?_
        refine sw_iload_n X 1 rfl rfl dX4_trait_54 ?_
        obtain ⟨q6, h⟩ := bnd_E h
        refine sw_iald X (show sw_kd (t + 3) = 8 from (sw_tk3 ht)) (n := 6) (sw_tn3 ht) q6 dX4_trait_55 ?_
        exact sw_iret X hr hlk dX4_trait_56 (by cases h; rfl)
      · have h := ite_F h q5
        by_cases q7 : a2 = 3
        · have h := ite_T h q7
          refine sw_tabIn X (k := 3) (off := 56) 57 q7 (by decide) (by decide) (by decide) (by decide) dX4_trait_1 ?_
          refine sw_aload_n X 0 rfl rfl dX4_trait_57 ?_
          refine sw_getR X sw_cl4 (show sw_kd t = 4 from ht) (k := 4) rfl (by decide) (o1 := t + 4) (sw_rfT st ht : sw_rf st t 4 = t + 4) wf_X4_25 dX4_trait_58 ?_
          refine sw_iload_n X 1 rfl rfl dX4_trait_61 ?_
          obtain ⟨q8, h⟩ := bnd_E h
          refine sw_iald X (show sw_kd (t + 4) = 8 from (sw_tk4 ht)) (n := 6) (sw_tn4 ht) q8 dX4_trait_62 ?_
          exact sw_iret X hr hlk dX4_trait_63 (by cases h; rfl)
        · have h := ite_F h q7
          by_cases q9 : a2 = 4
          · have h := ite_T h q9
            refine sw_tabIn X (k := 4) (off := 63) 64 q9 (by decide) (by decide) (by decide) (by decide) dX4_trait_1 ?_
            refine sw_aload_n X 0 rfl rfl dX4_trait_64 ?_
            refine sw_iload_n X 1 rfl rfl dX4_trait_65 ?_
            obtain ⟨r11, c10, h⟩ := bo_E h
            refine sw_callVI X (o := t) (As := (fun g => [.int a1])) sw_cl4 (show sw_kd t = 4 from ht) ws_X4_isIn (by omega) (c_X4_isIn F (show sw_kd t = 4 from ht) a1 st c10) rfl rfl (Nat.le_of_ble_eq_true rfl) wm_X4_94 dX4_trait_66 ?_
            refine jn1_E (fun (x12 : Int32) => sw_V p l e 4 s m args below meth c g (sw_A g s.heap.size) (sw_QI below g args s r st) 3 77 [] [.int x12] st) h (fun x12 h => ?_) (fun k13 J14 h => ?_)
            · exact sw_iret X hr hlk dX4_trait_77 (by cases h; rfl)
            · refine sw_if_eq X 76 (by decide) dX4_trait_69 (fun q15 => ?_) (fun q15 => ?_)
              · have h := ite_T h q15
                refine sw_iconst X (v := 0) (by decide) dX4_trait_76 ?_
                refine sw_sub [] rfl ?_
                exact J14 _ h
              · have h := ite_F h q15
                refine sw_iconst X (v := 1) (by decide) dX4_trait_72 ?_
                refine sw_goto X 77 (by decide) dX4_trait_73 ?_
                refine sw_sub [] rfl ?_
                exact J14 _ h
          · have h := ite_F h q9
            have n0 := lv_neT q1 (show (0 : Int32).toInt = 0 by decide)
            have n1 := lv_neT q3 (show (1 : Int32).toInt = 1 by decide)
            have n2 := lv_neT q5 (show (2 : Int32).toInt = 2 by decide)
            have n3 := lv_neT q7 (show (3 : Int32).toInt = 3 by decide)
            have n4 := lv_neT q9 (show (4 : Int32).toInt = 4 by decide)
            refine sw_tabOut X 78 (by omega) (by decide) dX4_trait_1 ?_
            refine sw_aload_n X 0 rfl rfl dX4_trait_78 ?_
            refine sw_iload_n X 1 rfl rfl dX4_trait_79 ?_
            refine sw_aload_n X 0 rfl rfl dX4_trait_80 ?_
            refine sw_getI X sw_cl4 (show sw_kd t = 4 from ht) (k := 7) rfl (by decide) wf_X4_34 dX4_trait_81 ?_
            refine sw_aload_n X 0 rfl rfl dX4_trait_84 ?_
            refine sw_getI X sw_cl4 (show sw_kd t = 4 from ht) (k := 11) rfl (by decide) wf_X4_46 dX4_trait_85 ?_
            obtain ⟨r17, c16, h⟩ := bo_E h
            refine sw_callVI X (o := t) (As := (fun g => [.int a1, .int (st.1 t 7), .int (st.1 t 11)])) sw_cl4 (show sw_kd t = 4 from ht) ws_X4_turns (by omega) (c_X4_turns F (show sw_kd t = 4 from ht) a1 (st.1 t 7) (st.1 t 11) st c16) rfl rfl (Nat.le_of_ble_eq_true rfl) wm_X4_97 dX4_trait_88 ?_
            exact sw_iret X hr hlk dX4_trait_91 (by cases h; rfl)
theorem dX4_markOf_0 : decode cX4_markOf 0 = .ok (.iconst 1, 1) := by decide +kernel
theorem dX4_markOf_1 : decode cX4_markOf 1 = .ok (.iload_n 1, 1) := by decide +kernel
theorem dX4_markOf_2 : decode cX4_markOf 2 = .ok (.ishl, 1) := by decide +kernel
theorem dX4_markOf_3 : decode cX4_markOf 3 = .ok (.iconst (-1), 1) := by decide +kernel
theorem dX4_markOf_4 : decode cX4_markOf 4 = .ok (.ixor, 1) := by decide +kernel
theorem dX4_markOf_5 : decode cX4_markOf 5 = .ok (.istore_n 3, 1) := by decide +kernel
theorem dX4_markOf_6 : decode cX4_markOf 6 = .ok (.iload_n 2, 1) := by decide +kernel
theorem dX4_markOf_7 : decode cX4_markOf 7 = .ok (.tableswitch 72 1 4 #[29, 38, 49, 60], 29) := by decide +kernel
theorem dX4_markOf_36 : decode cX4_markOf 36 = .ok (.aload_n 0, 1) := by decide +kernel
theorem dX4_markOf_37 : decode cX4_markOf 37 = .ok (.getfield 19, 3) := by decide +kernel
theorem dX4_markOf_40 : decode cX4_markOf 40 = .ok (.iload_n 1, 1) := by decide +kernel
theorem dX4_markOf_41 : decode cX4_markOf 41 = .ok (.iaload, 1) := by decide +kernel
theorem dX4_markOf_42 : decode cX4_markOf 42 = .ok (.iconst 2, 1) := by decide +kernel
theorem dX4_markOf_43 : decode cX4_markOf 43 = .ok (.idiv, 1) := by decide +kernel
theorem dX4_markOf_44 : decode cX4_markOf 44 = .ok (.ireturn, 1) := by decide +kernel
theorem dX4_markOf_45 : decode cX4_markOf 45 = .ok (.iconst 4, 1) := by decide +kernel
theorem dX4_markOf_46 : decode cX4_markOf 46 = .ok (.aload_n 0, 1) := by decide +kernel
theorem dX4_markOf_47 : decode cX4_markOf 47 = .ok (.getfield 19, 3) := by decide +kernel
theorem dX4_markOf_50 : decode cX4_markOf 50 = .ok (.iload_n 1, 1) := by decide +kernel
theorem dX4_markOf_51 : decode cX4_markOf 51 = .ok (.iaload, 1) := by decide +kernel
theorem dX4_markOf_52 : decode cX4_markOf 52 = .ok (.iconst 4, 1) := by decide +kernel
theorem dX4_markOf_53 : decode cX4_markOf 53 = .ok (.irem, 1) := by decide +kernel
theorem dX4_markOf_54 : decode cX4_markOf 54 = .ok (.isub, 1) := by decide +kernel
theorem dX4_markOf_55 : decode cX4_markOf 55 = .ok (.ireturn, 1) := by decide +kernel
theorem dX4_markOf_56 : decode cX4_markOf 56 = .ok (.aload_n 0, 1) := by decide +kernel
theorem dX4_markOf_57 : decode cX4_markOf 57 = .ok (.iconst 3, 1) := by decide +kernel
theorem dX4_markOf_58 : decode cX4_markOf 58 = .ok (.invokevirtual 100, 3) := by decide +kernel
theorem dX4_markOf_61 : decode cX4_markOf 61 = .ok (.iload_n 3, 1) := by decide +kernel
theorem dX4_markOf_62 : decode cX4_markOf 62 = .ok (.iand, 1) := by decide +kernel
theorem dX4_markOf_63 : decode cX4_markOf 63 = .ok (.invokestatic 103, 3) := by decide +kernel
theorem dX4_markOf_66 : decode cX4_markOf 66 = .ok (.ireturn, 1) := by decide +kernel
theorem dX4_markOf_67 : decode cX4_markOf 67 = .ok (.iconst 0, 1) := by decide +kernel
theorem dX4_markOf_68 : decode cX4_markOf 68 = .ok (.aload_n 0, 1) := by decide +kernel
theorem dX4_markOf_69 : decode cX4_markOf 69 = .ok (.getfield 34, 3) := by decide +kernel
theorem dX4_markOf_72 : decode cX4_markOf 72 = .ok (.bipush 40, 2) := by decide +kernel
theorem dX4_markOf_74 : decode cX4_markOf 74 = .ok (.isub, 1) := by decide +kernel
theorem dX4_markOf_75 : decode cX4_markOf 75 = .ok (.invokestatic 108, 3) := by decide +kernel
theorem dX4_markOf_78 : decode cX4_markOf 78 = .ok (.ireturn, 1) := by decide +kernel
theorem dX4_markOf_79 : decode cX4_markOf 79 = .ok (.aload_n 0, 1) := by decide +kernel
theorem dX4_markOf_80 : decode cX4_markOf 80 = .ok (.getfield 46, 3) := by decide +kernel
theorem dX4_markOf_83 : decode cX4_markOf 83 = .ok (.iload_n 3, 1) := by decide +kernel
theorem dX4_markOf_84 : decode cX4_markOf 84 = .ok (.iand, 1) := by decide +kernel
theorem dX4_markOf_85 : decode cX4_markOf 85 = .ok (.invokestatic 103, 3) := by decide +kernel
theorem dX4_markOf_88 : decode cX4_markOf 88 = .ok (.ireturn, 1) := by decide +kernel
def j_X4_markOf (F : Nat) (t : Nat) (a1 : Int32) (a2 : Int32) (st : sw_St) : Option Int32 :=
nm ((1 <<< (a1 &&& 31)) ^^^ (-1)) (fun (x1 : Int32) =>
(if a2 = 1 then (
 bnd a1 6 (
 some ((st.1 (t + 2) (a1 : Int32).toNatClampNeg) / 2 : Int32)))
else (
 (if a2 = 2 then (
  bnd a1 6 (
  some (4 - ((st.1 (t + 2) (a1 : Int32).toNatClampNeg) - (st.1 (t + 2) (a1 : Int32).toNatClampNeg) / 4 * 4) : Int32)))
 else (
  (if a2 = 3 then (
   bo (j_X4_allOf F t 3 st) (fun (r8 : Int32) =>
   bo (j_J6_bitCount_0f7a4 F (r8 &&& x1) st) (fun (r10 : Int32) =>
   some (r10 : Int32))))
  else (
   (if a2 = 4 then (
    some ((if 0 < ((st.1 t 7) - 40) then ((st.1 t 7) - 40) else 0) : Int32))
   else (
    bo (j_J6_bitCount_0f7a4 F ((st.1 t 11) &&& x1) st) (fun (r13 : Int32) =>
    some (r13 : Int32)))))))))))
set_option maxHeartbeats 4000000 in
set_option maxRecDepth 100000 in
theorem c_X4_markOf (F : Nat) {t : Nat} (ht : sw_kd t = 4) (a1 : Int32) (a2 : Int32) (st : sw_St) {r : Int32} (h : j_X4_markOf F t a1 a2 st = some r) : sw_CI yX4_markOf (.code yX4_markOf cX4_markOf 4 (some .int)) 3 (fun g => [.ref (g.1 t), .int a1, .int a2]) st r st := by
  refine sw_entI RX4 (fun g => [(0, .ref (g.1 t)), (1, .int a1), (2, .int a2)]) (by decide) rfl (fun _ => Nat.le_of_ble_eq_true rfl) (fun _ => rfl) ?_
  intro p l e s m args below meth c g X hr hlk
  unfold j_X4_markOf at h
  refine sw_iconst X (v := 1) (by decide) dX4_markOf_0 ?_
  refine sw_iload_n X 1 rfl rfl dX4_markOf_1 ?_
  refine sw_ishl X dX4_markOf_2 ?_
  refine sw_iconst X (v := (-1)) (by decide) dX4_markOf_3 ?_
  refine sw_ixor X dX4_markOf_4 ?_
  refine sw_topi (fun x1 ex1 => ?_)
  have h := nm_E h ex1
  refine sw_istore_n X [(3, .int x1), (0, .ref (g.1 t)), (1, .int a1), (2, .int a2)] rfl (by decide) rfl dX4_markOf_5 ?_
  refine sw_iload_n X 3 rfl rfl dX4_markOf_6 ?_
  by_cases q2 : a2 = 1
  · have h := ite_T h q2
    refine sw_tabIn X (k := 1) (off := 29) 36 q2 (by decide) (by decide) (by decide) (by decide) dX4_markOf_7 ?_
    refine sw_aload_n X 1 rfl rfl dX4_markOf_36 ?_
    refine sw_getR X sw_cl4 (show sw_kd t = 4 from ht) (k := 2) rfl (by decide) (o1 := t + 2) (sw_rfT st ht : sw_rf st t 2 = t + 2) wf_X4_19 dX4_markOf_37 ?_
    refine sw_iload_n X 2 rfl rfl dX4_markOf_40 ?_
    obtain ⟨q3, h⟩ := bnd_E h
    refine sw_iald X (show sw_kd (t + 2) = 8 from (sw_tk2 ht)) (n := 6) (sw_tn2 ht) q3 dX4_markOf_41 ?_
    refine sw_iconst X (v := 2) (by decide) dX4_markOf_42 ?_
    refine sw_idiv X (by decide) dX4_markOf_43 ?_
    exact sw_iret X hr hlk dX4_markOf_44 (by cases h; rfl)
  · have h := ite_F h q2
    by_cases q4 : a2 = 2
    · have h := ite_T h q4
      refine sw_tabIn X (k := 2) (off := 38) 45 q4 (by decide) (by decide) (by decide) (by decide) dX4_markOf_7 ?_
      refine sw_iconst X (v := 4) (by decide) dX4_markOf_45 ?_
      refine sw_aload_n X 1 rfl rfl dX4_markOf_46 ?_
      refine sw_getR X sw_cl4 (show sw_kd t = 4 from ht) (k := 2) rfl (by decide) (o1 := t + 2) (sw_rfT st ht : sw_rf st t 2 = t + 2) wf_X4_19 dX4_markOf_47 ?_
      refine sw_iload_n X 2 rfl rfl dX4_markOf_50 ?_
      obtain ⟨q5, h⟩ := bnd_E h
      refine sw_iald X (show sw_kd (t + 2) = 8 from (sw_tk2 ht)) (n := 6) (sw_tn2 ht) q5 dX4_markOf_51 ?_
      refine sw_iconst X (v := 4) (by decide) dX4_markOf_52 ?_
      refine sw_irem X (by decide) dX4_markOf_53 ?_
      refine sw_isub X dX4_markOf_54 ?_
      exact sw_iret X hr hlk dX4_markOf_55 (by cases h; rfl)
    · have h := ite_F h q4
      by_cases q6 : a2 = 3
      · have h := ite_T h q6
        refine sw_tabIn X (k := 3) (off := 49) 56 q6 (by decide) (by decide) (by decide) (by decide) dX4_markOf_7 ?_
        refine sw_aload_n X 1 rfl rfl dX4_markOf_56 ?_
        refine sw_iconst X (v := 3) (by decide) dX4_markOf_57 ?_
        obtain ⟨r8, c7, h⟩ := bo_E h
        refine sw_callVI X (o := t) (As := (fun g => [.int 3])) sw_cl4 (show sw_kd t = 4 from ht) ws_X4_allOf (by omega) (c_X4_allOf F (show sw_kd t = 4 from ht) 3 st c7) rfl rfl (Nat.le_of_ble_eq_true rfl) wm_X4_100 dX4_markOf_58 ?_
        refine sw_iload_n X 0 rfl rfl dX4_markOf_61 ?_
        refine sw_iand X dX4_markOf_62 ?_
        obtain ⟨r10, c9, h⟩ := bo_E h
        refine sw_callSI X (As := (fun g => [.int (r8 &&& x1)])) ws_J6_bitCount_0f7a4 (by omega) (c_J6_bitCount_0f7a4 F (r8 &&& x1) st c9) rfl rfl (Nat.le_of_ble_eq_true rfl) wm_X4_103 dX4_markOf_63 ?_
        exact sw_iret X hr hlk dX4_markOf_66 (by cases h; rfl)
      · have h := ite_F h q6
        by_cases q11 : a2 = 4
        · have h := ite_T h q11
          refine sw_tabIn X (k := 4) (off := 60) 67 q11 (by decide) (by decide) (by decide) (by decide) dX4_markOf_7 ?_
          refine sw_iconst X (v := 0) (by decide) dX4_markOf_67 ?_
          refine sw_aload_n X 1 rfl rfl dX4_markOf_68 ?_
          refine sw_getI X sw_cl4 (show sw_kd t = 4 from ht) (k := 7) rfl (by decide) wf_X4_34 dX4_markOf_69 ?_
          refine sw_bipush X (v := 40) (by decide) dX4_markOf_72 ?_
          refine sw_isub X dX4_markOf_74 ?_
          refine sw_mmax X wm_X4_108 ws_max.1 ws_max.2.1 ws_max.2.2 (by omega) (Nat.le_of_ble_eq_true rfl) dX4_markOf_75 ?_
          exact sw_iret X hr hlk dX4_markOf_78 (by cases h; rfl)
        · have h := ite_F h q11
          have n0 := lv_neT q2 (show (1 : Int32).toInt = 1 by decide)
          have n1 := lv_neT q4 (show (2 : Int32).toInt = 2 by decide)
          have n2 := lv_neT q6 (show (3 : Int32).toInt = 3 by decide)
          have n3 := lv_neT q11 (show (4 : Int32).toInt = 4 by decide)
          refine sw_tabOut X 79 (by omega) (by decide) dX4_markOf_7 ?_
          refine sw_aload_n X 1 rfl rfl dX4_markOf_79 ?_
          refine sw_getI X sw_cl4 (show sw_kd t = 4 from ht) (k := 11) rfl (by decide) wf_X4_46 dX4_markOf_80 ?_
          refine sw_iload_n X 0 rfl rfl dX4_markOf_83 ?_
          refine sw_iand X dX4_markOf_84 ?_
          obtain ⟨r13, c12, h⟩ := bo_E h
          refine sw_callSI X (As := (fun g => [.int ((st.1 t 11) &&& x1)])) ws_J6_bitCount_0f7a4 (by omega) (c_J6_bitCount_0f7a4 F ((st.1 t 11) &&& x1) st c12) rfl rfl (Nat.le_of_ble_eq_true rfl) wm_X4_103 dX4_markOf_85 ?_
          exact sw_iret X hr hlk dX4_markOf_88 (by cases h; rfl)
theorem dX4_hoursLeft_0 : decode cX4_hoursLeft 0 = .ok (.iload_n 1, 1) := by decide +kernel
theorem dX4_hoursLeft_1 : decode cX4_hoursLeft 1 = .ok (.aload_n 0, 1) := by decide +kernel
theorem dX4_hoursLeft_2 : decode cX4_hoursLeft 2 = .ok (.getfield 37, 3) := by decide +kernel
theorem dX4_hoursLeft_5 : decode cX4_hoursLeft 5 = .ok (.iadd, 1) := by decide +kernel
theorem dX4_hoursLeft_6 : decode cX4_hoursLeft 6 = .ok (.iconst 1, 1) := by decide +kernel
theorem dX4_hoursLeft_7 : decode cX4_hoursLeft 7 = .ok (.aload_n 0, 1) := by decide +kernel
theorem dX4_hoursLeft_8 : decode cX4_hoursLeft 8 = .ok (.getfield 37, 3) := by decide +kernel
theorem dX4_hoursLeft_11 : decode cX4_hoursLeft 11 = .ok (.iadd, 1) := by decide +kernel
theorem dX4_hoursLeft_12 : decode cX4_hoursLeft 12 = .ok (.idiv, 1) := by decide +kernel
theorem dX4_hoursLeft_13 : decode cX4_hoursLeft 13 = .ok (.ireturn, 1) := by decide +kernel
def j_X4_hoursLeft (F : Nat) (t : Nat) (a1 : Int32) (st : sw_St) : Option Int32 :=
grd (¬ (1 + (st.1 t 8)) = 0) (
some ((a1 + (st.1 t 8)) / (1 + (st.1 t 8)) : Int32))
set_option maxHeartbeats 4000000 in
set_option maxRecDepth 100000 in
theorem c_X4_hoursLeft (F : Nat) {t : Nat} (ht : sw_kd t = 4) (a1 : Int32) (st : sw_St) {r : Int32} (h : j_X4_hoursLeft F t a1 st = some r) : sw_CI yX4_hoursLeft (.code yX4_hoursLeft cX4_hoursLeft 2 (some .int)) 1 (fun g => [.ref (g.1 t), .int a1]) st r st := by
  refine sw_entI RX4 (fun g => [(0, .ref (g.1 t)), (1, .int a1)]) (by decide) rfl (fun _ => Nat.le_of_ble_eq_true rfl) (fun _ => rfl) ?_
  intro p l e s m args below meth c g X hr hlk
  unfold j_X4_hoursLeft at h
  refine sw_iload_n X 1 rfl rfl dX4_hoursLeft_0 ?_
  refine sw_aload_n X 0 rfl rfl dX4_hoursLeft_1 ?_
  refine sw_getI X sw_cl4 (show sw_kd t = 4 from ht) (k := 8) rfl (by decide) wf_X4_37 dX4_hoursLeft_2 ?_
  refine sw_iadd X dX4_hoursLeft_5 ?_
  refine sw_iconst X (v := 1) (by decide) dX4_hoursLeft_6 ?_
  refine sw_aload_n X 0 rfl rfl dX4_hoursLeft_7 ?_
  refine sw_getI X sw_cl4 (show sw_kd t = 4 from ht) (k := 8) rfl (by decide) wf_X4_37 dX4_hoursLeft_8 ?_
  refine sw_iadd X dX4_hoursLeft_11 ?_
  obtain ⟨q1, h⟩ := grd_E h
  refine sw_idiv X q1 dX4_hoursLeft_12 ?_
  exact sw_iret X hr hlk dX4_hoursLeft_13 (by cases h; rfl)
theorem dX4_weight_0 : decode cX4_weight 0 = .ok (.lconst 1, 1) := by decide +kernel
theorem dX4_weight_1 : decode cX4_weight 1 = .ok (.lstore_n 3, 1) := by decide +kernel
theorem dX4_weight_2 : decode cX4_weight 2 = .ok (.iconst 0, 1) := by decide +kernel
theorem dX4_weight_3 : decode cX4_weight 3 = .ok (.istore 5, 2) := by decide +kernel
theorem dX4_weight_5 : decode cX4_weight 5 = .ok (.iload 5, 2) := by decide +kernel
theorem dX4_weight_7 : decode cX4_weight 7 = .ok (.aload_n 0, 1) := by decide +kernel
theorem dX4_weight_8 : decode cX4_weight 8 = .ok (.getfield 9, 3) := by decide +kernel
theorem dX4_weight_11 : decode cX4_weight 11 = .ok (.if_icmp .ge 41, 3) := by decide +kernel
theorem dX4_weight_14 : decode cX4_weight 14 = .ok (.aload_n 0, 1) := by decide +kernel
theorem dX4_weight_15 : decode cX4_weight 15 = .ok (.iload 5, 2) := by decide +kernel
theorem dX4_weight_17 : decode cX4_weight 17 = .ok (.invokevirtual 94, 3) := by decide +kernel
theorem dX4_weight_20 : decode cX4_weight 20 = .ok (.ifCond .ne 26, 3) := by decide +kernel
theorem dX4_weight_23 : decode cX4_weight 23 = .ok (.lload_n 3, 1) := by decide +kernel
theorem dX4_weight_24 : decode cX4_weight 24 = .ok (.iload_n 1, 1) := by decide +kernel
theorem dX4_weight_25 : decode cX4_weight 25 = .ok (.iload 5, 2) := by decide +kernel
theorem dX4_weight_27 : decode cX4_weight 27 = .ok (.ishr, 1) := by decide +kernel
theorem dX4_weight_28 : decode cX4_weight 28 = .ok (.iconst 1, 1) := by decide +kernel
theorem dX4_weight_29 : decode cX4_weight 29 = .ok (.iand, 1) := by decide +kernel
theorem dX4_weight_30 : decode cX4_weight 30 = .ok (.iconst 1, 1) := by decide +kernel
theorem dX4_weight_31 : decode cX4_weight 31 = .ok (.if_icmp .ne 8, 3) := by decide +kernel
theorem dX4_weight_34 : decode cX4_weight 34 = .ok (.iload_n 2, 1) := by decide +kernel
theorem dX4_weight_35 : decode cX4_weight 35 = .ok (.i2l, 1) := by decide +kernel
theorem dX4_weight_36 : decode cX4_weight 36 = .ok (.goto 8, 3) := by decide +kernel
theorem dX4_weight_39 : decode cX4_weight 39 = .ok (.bipush 12, 2) := by decide +kernel
theorem dX4_weight_41 : decode cX4_weight 41 = .ok (.iload_n 2, 1) := by decide +kernel
theorem dX4_weight_42 : decode cX4_weight 42 = .ok (.isub, 1) := by decide +kernel
theorem dX4_weight_43 : decode cX4_weight 43 = .ok (.i2l, 1) := by decide +kernel
theorem dX4_weight_44 : decode cX4_weight 44 = .ok (.lmul, 1) := by decide +kernel
theorem dX4_weight_45 : decode cX4_weight 45 = .ok (.lstore_n 3, 1) := by decide +kernel
theorem dX4_weight_46 : decode cX4_weight 46 = .ok (.iinc 5 1, 3) := by decide +kernel
theorem dX4_weight_49 : decode cX4_weight 49 = .ok (.goto (-44), 3) := by decide +kernel
theorem dX4_weight_52 : decode cX4_weight 52 = .ok (.lload_n 3, 1) := by decide +kernel
theorem dX4_weight_53 : decode cX4_weight 53 = .ok (.lreturn, 1) := by decide +kernel
def j_X4_weight (F : Nat) (t : Nat) (a1 : Int32) (a2 : Int32) (st : sw_St) : Option Int64 :=
lz2 (fun f3 (x1 : Int64) (x2 : Int32) =>
 (if (st.1 t 0) ≤ x2 then (
  some (x1 : Int64))
 else (
  bo (j_X4_isIn F t x2 st) (fun (r7 : Int32) =>
  jn (fun (x8 : Int64) => 
    nm (x2 + 1) (fun (x11 : Int32) =>
    f3 x8 x11)) (fun k9 =>
   (if r7 = 0 then (
    jn (fun (x13 : Int64) => 
      nm (x1 * x13) (fun (x16 : Int64) =>
      k9 x16)) (fun k14 =>
     (if ((a1 >>> (x2 &&& 31)) &&& 1) = 1 then (
      k14 ((a2 : Int32).toInt64))
     else (
      k14 (((12 - a2) : Int32).toInt64)))))
   else (
    k9 x1))))))) F 1 0
set_option maxHeartbeats 4000000 in
set_option maxRecDepth 100000 in
theorem c_X4_weight (F : Nat) {t : Nat} (ht : sw_kd t = 4) (a1 : Int32) (a2 : Int32) (st : sw_St) {r : Int64} (h : j_X4_weight F t a1 a2 st = some r) : sw_CL yX4_weight (.code yX4_weight cX4_weight 6 (some .long)) 2 (fun g => [.ref (g.1 t), .int a1, .int a2]) st r st := by
  refine sw_entL RX4 (fun g => [(0, .ref (g.1 t)), (1, .int a1), (2, .int a2)]) (by decide) rfl (fun _ => Nat.le_of_ble_eq_true rfl) (fun _ => rfl) ?_
  intro p l e s m args below meth c g X hr hlk
  unfold j_X4_weight at h
  refine sw_lconst X (v := 1) (by decide) dX4_weight_0 ?_
  refine sw_lstore_n X [(3, .long 1), (0, .ref (g.1 t)), (1, .int a1), (2, .int a2)] rfl (by decide) rfl dX4_weight_1 ?_
  refine sw_iconst X (v := 0) (by decide) dX4_weight_2 ?_
  refine sw_istore X [(5, .int 0), (3, .long 1), (0, .ref (g.1 t)), (1, .int a1), (2, .int a2)] (by decide) rfl dX4_weight_3 ?_
  refine sw_sub [2, 3, 4, 1, 0] rfl ?_
  refine lz2_E (fun (x1 : Int64) (x2 : Int32) => sw_V p l e 2 s m args below meth c g (sw_A g s.heap.size) (sw_QL below g args s r st) 6 5 [(0, .ref (g.1 t)), (1, .int a1), (2, .int a2), (3, .long x1), (5, .int x2)] [] st) h (fun f3 ih4 x1 x2 h => ?_)
  refine sw_iload X 4 rfl dX4_weight_5 ?_
  refine sw_aload_n X 0 rfl rfl dX4_weight_7 ?_
  refine sw_getI X sw_cl4 (show sw_kd t = 4 from ht) (k := 0) rfl (by decide) wf_X4_9 dX4_weight_8 ?_
  refine sw_icmp_ge X 52 (by decide) dX4_weight_11 (fun q5 => ?_) (fun q5 => ?_)
  · have h := ite_T h q5
    refine sw_lload_n X 3 rfl rfl dX4_weight_52 ?_
    exact sw_lret X hr hlk dX4_weight_53 (by cases h; rfl)
  · have h := ite_F h q5
    refine sw_aload_n X 0 rfl rfl dX4_weight_14 ?_
    refine sw_iload X 4 rfl dX4_weight_15 ?_
    obtain ⟨r7, c6, h⟩ := bo_E h
    refine sw_callVI X (o := t) (As := (fun g => [.int x2])) sw_cl4 (show sw_kd t = 4 from ht) ws_X4_isIn (by omega) (c_X4_isIn F (show sw_kd t = 4 from ht) x2 st c6) rfl rfl (Nat.le_of_ble_eq_true rfl) wm_X4_94 dX4_weight_17 ?_
    refine jn1_E (fun (x8 : Int64) => sw_V p l e 2 s m args below meth c g (sw_A g s.heap.size) (sw_QL below g args s r st) 6 46 [(0, .ref (g.1 t)), (1, .int a1), (2, .int a2), (3, .long x8), (5, .int x2)] [] st) h (fun x8 h => ?_) (fun k9 J10 h => ?_)
    · obtain ⟨x11, ex11⟩ : ∃ y : Int32, y = x2 + 1 := ⟨_, rfl⟩
      have h := nm_E h ex11
      refine sw_iinc X 4 x11 [(5, .int x11), (0, .ref (g.1 t)), (1, .int a1), (2, .int a2), (3, .long x8)] rfl (by rw [ex11]; rfl) (by decide) rfl dX4_weight_46 ?_
      refine sw_goto X 5 (by decide) dX4_weight_49 ?_
      refine sw_sub [1, 2, 3, 4, 0] rfl ?_
      exact ih4 _ _ h
    · refine sw_if_ne X 46 (by decide) dX4_weight_20 (fun q12 => ?_) (fun q12 => ?_)
      · have h := ite_F h q12
        exact J10 _ h
      · have h := ite_T h q12
        refine sw_lload_n X 3 rfl rfl dX4_weight_23 ?_
        refine sw_iload_n X 1 rfl rfl dX4_weight_24 ?_
        refine sw_iload X 4 rfl dX4_weight_25 ?_
        refine sw_ishr X dX4_weight_27 ?_
        refine sw_iconst X (v := 1) (by decide) dX4_weight_28 ?_
        refine sw_iand X dX4_weight_29 ?_
        refine sw_iconst X (v := 1) (by decide) dX4_weight_30 ?_
        refine jn1_E (fun (x13 : Int64) => sw_V p l e 2 s m args below meth c g (sw_A g s.heap.size) (sw_QL below g args s r st) 6 44 [(0, .ref (g.1 t)), (1, .int a1), (2, .int a2), (5, .int x2)] [.long x13, .long x1] st) h (fun x13 h => ?_) (fun k14 J15 h => ?_)
        · refine sw_lmul X dX4_weight_44 ?_
          refine sw_topl (fun x16 ex16 => ?_)
          have h := nm_E h ex16
          refine sw_lstore_n X [(3, .long x16), (0, .ref (g.1 t)), (1, .int a1), (2, .int a2), (5, .int x2)] rfl (by decide) rfl dX4_weight_45 ?_
          refine sw_sub [1, 2, 3, 0, 4] rfl ?_
          exact J10 _ h
        · refine sw_icmp_ne X 39 (by decide) dX4_weight_31 (fun q17 => ?_) (fun q17 => ?_)
          · have h := ite_F h q17
            refine sw_bipush X (v := 12) (by decide) dX4_weight_39 ?_
            refine sw_iload_n X 2 rfl rfl dX4_weight_41 ?_
            refine sw_isub X dX4_weight_42 ?_
            refine sw_i2l X dX4_weight_43 ?_
            refine sw_sub [0, 1, 2, 4] rfl ?_
            exact J15 _ h
          · have h := ite_T h q17
            refine sw_iload_n X 2 rfl rfl dX4_weight_34 ?_
            refine sw_i2l X dX4_weight_35 ?_
            refine sw_goto X 44 (by decide) dX4_weight_36 ?_
            refine sw_sub [0, 1, 2, 4] rfl ?_
            exact J15 _ h
theorem dX4_weights_0 : decode cX4_weights 0 = .ok (.lconst 1, 1) := by decide +kernel
theorem dX4_weights_1 : decode cX4_weights 1 = .ok (.lstore_n 1, 1) := by decide +kernel
theorem dX4_weights_2 : decode cX4_weights 2 = .ok (.iconst 0, 1) := by decide +kernel
theorem dX4_weights_3 : decode cX4_weights 3 = .ok (.istore_n 3, 1) := by decide +kernel
theorem dX4_weights_4 : decode cX4_weights 4 = .ok (.iload_n 3, 1) := by decide +kernel
theorem dX4_weights_5 : decode cX4_weights 5 = .ok (.aload_n 0, 1) := by decide +kernel
theorem dX4_weights_6 : decode cX4_weights 6 = .ok (.getfield 9, 3) := by decide +kernel
theorem dX4_weights_9 : decode cX4_weights 9 = .ok (.if_icmp .ge 27, 3) := by decide +kernel
theorem dX4_weights_12 : decode cX4_weights 12 = .ok (.lload_n 1, 1) := by decide +kernel
theorem dX4_weights_13 : decode cX4_weights 13 = .ok (.aload_n 0, 1) := by decide +kernel
theorem dX4_weights_14 : decode cX4_weights 14 = .ok (.iload_n 3, 1) := by decide +kernel
theorem dX4_weights_15 : decode cX4_weights 15 = .ok (.invokevirtual 94, 3) := by decide +kernel
theorem dX4_weights_18 : decode cX4_weights 18 = .ok (.ifCond .eq 7, 3) := by decide +kernel
theorem dX4_weights_21 : decode cX4_weights 21 = .ok (.lconst 1, 1) := by decide +kernel
theorem dX4_weights_22 : decode cX4_weights 22 = .ok (.goto 6, 3) := by decide +kernel
theorem dX4_weights_25 : decode cX4_weights 25 = .ok (.ldc2_w 117, 3) := by decide +kernel
theorem dX4_weights_28 : decode cX4_weights 28 = .ok (.lmul, 1) := by decide +kernel
theorem dX4_weights_29 : decode cX4_weights 29 = .ok (.lstore_n 1, 1) := by decide +kernel
theorem dX4_weights_30 : decode cX4_weights 30 = .ok (.iinc 3 1, 3) := by decide +kernel
theorem dX4_weights_33 : decode cX4_weights 33 = .ok (.goto (-29), 3) := by decide +kernel
theorem dX4_weights_36 : decode cX4_weights 36 = .ok (.lload_n 1, 1) := by decide +kernel
theorem dX4_weights_37 : decode cX4_weights 37 = .ok (.lreturn, 1) := by decide +kernel
def j_X4_weights (F : Nat) (t : Nat) (st : sw_St) : Option Int64 :=
lz2 (fun f3 (x1 : Int64) (x2 : Int32) =>
 (if (st.1 t 0) ≤ x2 then (
  some (x1 : Int64))
 else (
  bo (j_X4_isIn F t x2 st) (fun (r7 : Int32) =>
  jn (fun (x8 : Int64) => 
    nm (x1 * x8) (fun (x11 : Int64) =>
    nm (x2 + 1) (fun (x12 : Int32) =>
    f3 x11 x12))) (fun k9 =>
   (if r7 = 0 then (
    k9 12)
   else (
    k9 1))))))) F 1 0
set_option maxHeartbeats 4000000 in
set_option maxRecDepth 100000 in
theorem c_X4_weights (F : Nat) {t : Nat} (ht : sw_kd t = 4) (st : sw_St) {r : Int64} (h : j_X4_weights F t st = some r) : sw_CL yX4_weights (.code yX4_weights cX4_weights 4 (some .long)) 2 (fun g => [.ref (g.1 t)]) st r st := by
  refine sw_entL RX4 (fun g => [(0, .ref (g.1 t))]) (by decide) rfl (fun _ => Nat.le_of_ble_eq_true rfl) (fun _ => rfl) ?_
  intro p l e s m args below meth c g X hr hlk
  unfold j_X4_weights at h
  refine sw_lconst X (v := 1) (by decide) dX4_weights_0 ?_
  refine sw_lstore_n X [(1, .long 1), (0, .ref (g.1 t))] rfl (by decide) rfl dX4_weights_1 ?_
  refine sw_iconst X (v := 0) (by decide) dX4_weights_2 ?_
  refine sw_istore_n X [(3, .int 0), (1, .long 1), (0, .ref (g.1 t))] rfl (by decide) rfl dX4_weights_3 ?_
  refine sw_sub [2, 1, 0] rfl ?_
  refine lz2_E (fun (x1 : Int64) (x2 : Int32) => sw_V p l e 2 s m args below meth c g (sw_A g s.heap.size) (sw_QL below g args s r st) 4 4 [(0, .ref (g.1 t)), (1, .long x1), (3, .int x2)] [] st) h (fun f3 ih4 x1 x2 h => ?_)
  refine sw_iload_n X 2 rfl rfl dX4_weights_4 ?_
  refine sw_aload_n X 0 rfl rfl dX4_weights_5 ?_
  refine sw_getI X sw_cl4 (show sw_kd t = 4 from ht) (k := 0) rfl (by decide) wf_X4_9 dX4_weights_6 ?_
  refine sw_icmp_ge X 36 (by decide) dX4_weights_9 (fun q5 => ?_) (fun q5 => ?_)
  · have h := ite_T h q5
    refine sw_lload_n X 1 rfl rfl dX4_weights_36 ?_
    exact sw_lret X hr hlk dX4_weights_37 (by cases h; rfl)
  · have h := ite_F h q5
    refine sw_lload_n X 1 rfl rfl dX4_weights_12 ?_
    refine sw_aload_n X 0 rfl rfl dX4_weights_13 ?_
    refine sw_iload_n X 2 rfl rfl dX4_weights_14 ?_
    obtain ⟨r7, c6, h⟩ := bo_E h
    refine sw_callVI X (o := t) (As := (fun g => [.int x2])) sw_cl4 (show sw_kd t = 4 from ht) ws_X4_isIn (by omega) (c_X4_isIn F (show sw_kd t = 4 from ht) x2 st c6) rfl rfl (Nat.le_of_ble_eq_true rfl) wm_X4_94 dX4_weights_15 ?_
    refine jn1_E (fun (x8 : Int64) => sw_V p l e 2 s m args below meth c g (sw_A g s.heap.size) (sw_QL below g args s r st) 4 28 [(0, .ref (g.1 t)), (3, .int x2)] [.long x8, .long x1] st) h (fun x8 h => ?_) (fun k9 J10 h => ?_)
    · refine sw_lmul X dX4_weights_28 ?_
      refine sw_topl (fun x11 ex11 => ?_)
      have h := nm_E h ex11
      refine sw_lstore_n X [(1, .long x11), (0, .ref (g.1 t)), (3, .int x2)] rfl (by decide) rfl dX4_weights_29 ?_
      obtain ⟨x12, ex12⟩ : ∃ y : Int32, y = x2 + 1 := ⟨_, rfl⟩
      have h := nm_E h ex12
      refine sw_iinc X 2 x12 [(3, .int x12), (1, .long x11), (0, .ref (g.1 t))] rfl (by rw [ex12]; rfl) (by decide) rfl dX4_weights_30 ?_
      refine sw_goto X 4 (by decide) dX4_weights_33 ?_
      refine sw_sub [2, 1, 0] rfl ?_
      exact ih4 _ _ h
    · refine sw_if_eq X 25 (by decide) dX4_weights_18 (fun q13 => ?_) (fun q13 => ?_)
      · have h := ite_T h q13
        refine sw_ldc2 X (v := 12) wl_X4_117 dX4_weights_25 ?_
        refine sw_sub [0, 2] rfl ?_
        exact J10 _ h
      · have h := ite_F h q13
        refine sw_lconst X (v := 1) (by decide) dX4_weights_21 ?_
        refine sw_goto X 28 (by decide) dX4_weights_22 ?_
        refine sw_sub [0, 2] rfl ?_
        exact J10 _ h
theorem dX5_found_0 : decode cX5_found 0 = .ok (.aload_n 0, 1) := by decide +kernel
theorem dX5_found_1 : decode cX5_found 1 = .ok (.iload_n 1, 1) := by decide +kernel
theorem dX5_found_2 : decode cX5_found 2 = .ok (.putfield 75, 3) := by decide +kernel
theorem dX5_found_5 : decode cX5_found 5 = .ok (.aload_n 0, 1) := by decide +kernel
theorem dX5_found_6 : decode cX5_found 6 = .ok (.getfield 72, 3) := by decide +kernel
theorem dX5_found_9 : decode cX5_found 9 = .ok (.iload_n 1, 1) := by decide +kernel
theorem dX5_found_10 : decode cX5_found 10 = .ok (.dup2, 1) := by decide +kernel
theorem dX5_found_11 : decode cX5_found 11 = .ok (.iaload, 1) := by decide +kernel
theorem dX5_found_12 : decode cX5_found 12 = .ok (.iconst 1, 1) := by decide +kernel
theorem dX5_found_13 : decode cX5_found 13 = .ok (.iadd, 1) := by decide +kernel
theorem dX5_found_14 : decode cX5_found 14 = .ok (.iastore, 1) := by decide +kernel
theorem dX5_found_15 : decode cX5_found 15 = .ok (.bipush (-3), 2) := by decide +kernel
theorem dX5_found_17 : decode cX5_found 17 = .ok (.ireturn, 1) := by decide +kernel
def j_X5_found (F : Nat) (a1 : Int32) (st : sw_St) : Option (Int32 × sw_St) :=
nm (sw_setC st 0 13 a1) (fun (s1 : sw_St) =>
bnd a1 6 (
bnd a1 6 (
nm (sw_setC s1 62 (a1 : Int32).toNatClampNeg ((s1.1 62 (a1 : Int32).toNatClampNeg) + 1)) (fun (s4 : sw_St) =>
some (((-3) : Int32), s4)))))
set_option maxHeartbeats 4000000 in
set_option maxRecDepth 100000 in
theorem c_X5_found (F : Nat) (a1 : Int32) (st : sw_St) {r : Int32} {st1 : sw_St} (h : j_X5_found F a1 st = some (r, st1)) : sw_CI yX5_found (.code yX5_found cX5_found 2 (some .int)) 1 (fun g => [.ref (g.1 0), .int a1]) st r st1 := by
  refine sw_entI RX5 (fun g => [(0, .ref (g.1 0)), (1, .int a1)]) (by decide) rfl (fun _ => Nat.le_of_ble_eq_true rfl) (fun _ => rfl) ?_
  intro p l e s m args below meth c g X hr hlk
  unfold j_X5_found at h
  refine sw_aload_n X 0 rfl rfl dX5_found_0 ?_
  refine sw_iload_n X 1 rfl rfl dX5_found_1 ?_
  refine sw_putI X sw_cl5 (show sw_kd 0 = 5 from rfl) (k := 13) rfl (by decide) rfl rfl wf_X5_75 dX5_found_2 (fun s1 es1 => ?_)
  have h := nm_E h es1
  refine sw_aload_n X 0 rfl rfl dX5_found_5 ?_
  refine sw_getR X sw_cl5 (show sw_kd 0 = 5 from rfl) (k := 12) rfl (by decide) (o1 := 62) rfl wf_X5_72 dX5_found_6 ?_
  refine sw_iload_n X 1 rfl rfl dX5_found_9 ?_
  refine sw_dup2 X rfl rfl dX5_found_10 ?_
  obtain ⟨q2, h⟩ := bnd_E h
  refine sw_iald X (show sw_kd 62 = 8 from rfl) (n := 6) rfl q2 dX5_found_11 ?_
  refine sw_iconst X (v := 1) (by decide) dX5_found_12 ?_
  refine sw_iadd X dX5_found_13 ?_
  obtain ⟨q3, h⟩ := bnd_E h
  refine sw_iast X (show sw_kd 62 = 8 from rfl) (n := 6) rfl q3 dX5_found_14 (fun s4 es4 => ?_)
  have h := nm_E h es4
  refine sw_bipush X (v := (-3)) (by decide) dX5_found_15 ?_
  exact sw_iret X hr hlk dX5_found_17 h
theorem dX5_isRow_0 : decode cX5_isRow 0 = .ok (.iload_n 0, 1) := by decide +kernel
theorem dX5_isRow_1 : decode cX5_isRow 1 = .ok (.ifCond .lt 13, 3) := by decide +kernel
theorem dX5_isRow_4 : decode cX5_isRow 4 = .ok (.iload_n 0, 1) := by decide +kernel
theorem dX5_isRow_5 : decode cX5_isRow 5 = .ok (.bipush 6, 2) := by decide +kernel
theorem dX5_isRow_7 : decode cX5_isRow 7 = .ok (.if_icmp .ge 7, 3) := by decide +kernel
theorem dX5_isRow_10 : decode cX5_isRow 10 = .ok (.iconst 1, 1) := by decide +kernel
theorem dX5_isRow_11 : decode cX5_isRow 11 = .ok (.goto 4, 3) := by decide +kernel
theorem dX5_isRow_14 : decode cX5_isRow 14 = .ok (.iconst 0, 1) := by decide +kernel
theorem dX5_isRow_15 : decode cX5_isRow 15 = .ok (.ireturn, 1) := by decide +kernel
def j_X5_isRow (F : Nat) (a1 : Int32) (st : sw_St) : Option Int32 :=
jn (fun (x1 : Int32) => 
  grd (x1 = 0 ∨ x1 = 1) (some (x1 : Int32))) (fun k2 =>
 jn (
   k2 0) (fun k5 =>
  (if a1 < 0 then (
   k5)
  else (
   (if 6 ≤ a1 then (
    k5)
   else (
    k2 1))))))
set_option maxHeartbeats 4000000 in
set_option maxRecDepth 100000 in
theorem c_X5_isRow (F : Nat) (a1 : Int32) (st : sw_St) {r : Int32} (h : j_X5_isRow F a1 st = some r) : sw_CI yX5_isRow (.code yX5_isRow cX5_isRow 1 (some .boolean)) 1 (fun g => [.int a1]) st r st := by
  refine sw_entI RX5 (fun g => [(0, .int a1)]) (by decide) rfl (fun _ => Nat.le_of_ble_eq_true rfl) (fun _ => rfl) ?_
  intro p l e s m args below meth c g X hr hlk
  unfold j_X5_isRow at h
  refine sw_iload_n X 0 rfl rfl dX5_isRow_0 ?_
  refine jn1_E (fun (x1 : Int32) => sw_V p l e 1 s m args below meth c g (sw_A g s.heap.size) (sw_QI below g args s r st) 1 15 [] [.int x1] st) h (fun x1 h => ?_) (fun k2 J3 h => ?_)
  · obtain ⟨q4, h⟩ := grd_E h
    exact sw_zret X hr hlk q4 dX5_isRow_15 (by cases h; rfl)
  · refine jn0_E (sw_V p l e 1 s m args below meth c g (sw_A g s.heap.size) (sw_QI below g args s r st) 1 14 [] [] st) h (fun h => ?_) (fun k5 J6 h => ?_)
    · refine sw_iconst X (v := 0) (by decide) dX5_isRow_14 ?_
      exact J3 _ h
    · refine sw_if_lt X 14 (by decide) dX5_isRow_1 (fun q7 => ?_) (fun q7 => ?_)
      · have h := ite_T h q7
        refine sw_sub [] rfl ?_
        exact J6  h
      · have h := ite_F h q7
        refine sw_iload_n X 0 rfl rfl dX5_isRow_4 ?_
        refine sw_bipush X (v := 6) (by decide) dX5_isRow_5 ?_
        refine sw_icmp_ge X 14 (by decide) dX5_isRow_7 (fun q8 => ?_) (fun q8 => ?_)
        · have h := ite_T h q8
          refine sw_sub [] rfl ?_
          exact J6  h
        · have h := ite_F h q8
          refine sw_iconst X (v := 1) (by decide) dX5_isRow_10 ?_
          refine sw_goto X 15 (by decide) dX5_isRow_11 ?_
          refine sw_sub [] rfl ?_
          exact J3 _ h
theorem dX5_row_0 : decode cX5_row 0 = .ok (.iload_n 1, 1) := by decide +kernel
theorem dX5_row_1 : decode cX5_row 1 = .ok (.invokestatic 95, 3) := by decide +kernel
theorem dX5_row_4 : decode cX5_row 4 = .ok (.ifCond .eq 9, 3) := by decide +kernel
theorem dX5_row_7 : decode cX5_row 7 = .ok (.iload_n 2, 1) := by decide +kernel
theorem dX5_row_8 : decode cX5_row 8 = .ok (.bipush 40, 2) := by decide +kernel
theorem dX5_row_10 : decode cX5_row 10 = .ok (.if_icmp .le 5, 3) := by decide +kernel
theorem dX5_row_13 : decode cX5_row 13 = .ok (.iconst (-1), 1) := by decide +kernel
theorem dX5_row_14 : decode cX5_row 14 = .ok (.ireturn, 1) := by decide +kernel
theorem dX5_row_15 : decode cX5_row 15 = .ok (.iload_n 2, 1) := by decide +kernel
theorem dX5_row_16 : decode cX5_row 16 = .ok (.ifCond .ge 9, 3) := by decide +kernel
theorem dX5_row_19 : decode cX5_row 19 = .ok (.aload_n 0, 1) := by decide +kernel
theorem dX5_row_20 : decode cX5_row 20 = .ok (.iconst 5, 1) := by decide +kernel
theorem dX5_row_21 : decode cX5_row 21 = .ok (.invokevirtual 99, 3) := by decide +kernel
theorem dX5_row_24 : decode cX5_row 24 = .ok (.ireturn, 1) := by decide +kernel
theorem dX5_row_25 : decode cX5_row 25 = .ok (.aload_n 0, 1) := by decide +kernel
theorem dX5_row_26 : decode cX5_row 26 = .ok (.getfield 14, 3) := by decide +kernel
theorem dX5_row_29 : decode cX5_row 29 = .ok (.iload_n 1, 1) := by decide +kernel
theorem dX5_row_30 : decode cX5_row 30 = .ok (.iload_n 2, 1) := by decide +kernel
theorem dX5_row_31 : decode cX5_row 31 = .ok (.iastore, 1) := by decide +kernel
theorem dX5_row_32 : decode cX5_row 32 = .ok (.aload_n 0, 1) := by decide +kernel
theorem dX5_row_33 : decode cX5_row 33 = .ok (.getfield 11, 3) := by decide +kernel
theorem dX5_row_36 : decode cX5_row 36 = .ok (.iload_n 1, 1) := by decide +kernel
theorem dX5_row_37 : decode cX5_row 37 = .ok (.aaload, 1) := by decide +kernel
theorem dX5_row_38 : decode cX5_row 38 = .ok (.iconst 0, 1) := by decide +kernel
theorem dX5_row_39 : decode cX5_row 39 = .ok (.invokestatic 89, 3) := by decide +kernel
theorem dX5_row_42 : decode cX5_row 42 = .ok (.iload_n 2, 1) := by decide +kernel
theorem dX5_row_43 : decode cX5_row 43 = .ok (.ireturn, 1) := by decide +kernel
def j_X5_row (F : Nat) (a1 : Int32) (a2 : Int32) (st : sw_St) : Option (Int32 × sw_St) :=
bo (j_X5_isRow F a1 st) (fun (r2 : Int32) =>
jn (
  some (((-1) : Int32), st)) (fun k3 =>
 (if r2 = 0 then (
  k3)
 else (
  (if a2 ≤ 40 then (
   (if 0 ≤ a2 then (
    bnd a1 6 (
    nm (sw_setC st 8 (a1 : Int32).toNatClampNeg a2) (fun (s9 : sw_St) =>
    bnd a1 6 (
    bd (j_J7_fill_53178 F (2 + (a1 : Int32).toNatClampNeg) 0 s9) (fun (_ : Unit) (s12 : sw_St) =>
    some ((a2 : Int32), s12))))))
   else (
    bd (j_X5_found F 5 st) (fun (r15 : Int32) (s16 : sw_St) =>
    some ((r15 : Int32), s16)))))
  else (
   k3))))))
set_option maxHeartbeats 4000000 in
set_option maxRecDepth 100000 in
theorem c_X5_row (F : Nat) (a1 : Int32) (a2 : Int32) (st : sw_St) {r : Int32} {st1 : sw_St} (h : j_X5_row F a1 a2 st = some (r, st1)) : sw_CI yX5_row (.code yX5_row cX5_row 3 (some .int)) 2 (fun g => [.ref (g.1 0), .int a1, .int a2]) st r st1 := by
  refine sw_entI RX5 (fun g => [(0, .ref (g.1 0)), (1, .int a1), (2, .int a2)]) (by decide) rfl (fun _ => Nat.le_of_ble_eq_true rfl) (fun _ => rfl) ?_
  intro p l e s m args below meth c g X hr hlk
  unfold j_X5_row at h
  refine sw_iload_n X 1 rfl rfl dX5_row_0 ?_
  obtain ⟨r2, c1, h⟩ := bo_E h
  refine sw_callSI X (As := (fun g => [.int a1])) ws_X5_isRow (by omega) (c_X5_isRow F a1 st c1) rfl rfl (Nat.le_of_ble_eq_true rfl) wm_X5_95 dX5_row_1 ?_
  refine jn0_E (sw_V p l e 2 s m args below meth c g (sw_A g s.heap.size) (sw_QI below g args s r st1) 3 13 [] [] st) h (fun h => ?_) (fun k3 J4 h => ?_)
  · refine sw_iconst X (v := (-1)) (by decide) dX5_row_13 ?_
    exact sw_iret X hr hlk dX5_row_14 h
  · refine sw_if_eq X 13 (by decide) dX5_row_4 (fun q5 => ?_) (fun q5 => ?_)
    · have h := ite_T h q5
      refine sw_sub [] rfl ?_
      exact J4  h
    · have h := ite_F h q5
      refine sw_iload_n X 2 rfl rfl dX5_row_7 ?_
      refine sw_bipush X (v := 40) (by decide) dX5_row_8 ?_
      refine sw_icmp_le X 15 (by decide) dX5_row_10 (fun q6 => ?_) (fun q6 => ?_)
      · have h := ite_T h q6
        refine sw_iload_n X 2 rfl rfl dX5_row_15 ?_
        refine sw_if_ge X 25 (by decide) dX5_row_16 (fun q7 => ?_) (fun q7 => ?_)
        · have h := ite_T h q7
          refine sw_aload_n X 0 rfl rfl dX5_row_25 ?_
          refine sw_getR X sw_cl5 (show sw_kd 0 = 5 from rfl) (k := 1) rfl (by decide) (o1 := 8) rfl wf_X5_14 dX5_row_26 ?_
          refine sw_iload_n X 1 rfl rfl dX5_row_29 ?_
          refine sw_iload_n X 2 rfl rfl dX5_row_30 ?_
          obtain ⟨q8, h⟩ := bnd_E h
          refine sw_iast X (show sw_kd 8 = 8 from rfl) (n := 6) rfl q8 dX5_row_31 (fun s9 es9 => ?_)
          have h := nm_E h es9
          refine sw_aload_n X 0 rfl rfl dX5_row_32 ?_
          refine sw_getR X sw_cl5 (show sw_kd 0 = 5 from rfl) (k := 0) rfl (by decide) (o1 := 1) rfl wf_X5_11 dX5_row_33 ?_
          refine sw_iload_n X 1 rfl rfl dX5_row_36 ?_
          obtain ⟨q10, h⟩ := bnd_E h
          refine sw_aaldI X (show sw_kd 1 = 12 from rfl) (n := 6) rfl q10 (a1 := 2 + (a1 : Int32).toNatClampNeg) rfl dX5_row_37 ?_
          refine sw_iconst X (v := 0) (by decide) dX5_row_38 ?_
          obtain ⟨u13, s12, c11, h⟩ := bd_E h
          refine sw_callSV X (As := (fun g => [.ref (g.1 (2 + (a1 : Int32).toNatClampNeg)), .int 0])) ws_J7_fill_53178 (by omega) (c_J7_fill_53178 F (show sw_kd (2 + (a1 : Int32).toNatClampNeg) = 8 from (sw_rk q10)) 0 s9 c11) rfl rfl (Nat.le_of_ble_eq_true rfl) wm_X5_89 dX5_row_39 ?_
          refine sw_iload_n X 2 rfl rfl dX5_row_42 ?_
          exact sw_iret X hr hlk dX5_row_43 h
        · have h := ite_F h q7
          refine sw_aload_n X 0 rfl rfl dX5_row_19 ?_
          refine sw_iconst X (v := 5) (by decide) dX5_row_20 ?_
          obtain ⟨r15, s16, c14, h⟩ := bd_E h
          refine sw_callVI X (o := 0) (As := (fun g => [.int 5])) sw_cl5 (show sw_kd 0 = 5 from rfl) ws_X5_found (by omega) (c_X5_found F 5 st c14) rfl rfl (Nat.le_of_ble_eq_true rfl) wm_X5_99 dX5_row_21 ?_
          exact sw_iret X hr hlk dX5_row_24 h
      · have h := ite_F h q6
        refine sw_sub [] rfl ?_
        exact J4  h
theorem dX5_refusedPlace_0 : decode cX5_refusedPlace 0 = .ok (.iload_n 1, 1) := by decide +kernel
theorem dX5_refusedPlace_1 : decode cX5_refusedPlace 1 = .ok (.invokestatic 95, 3) := by decide +kernel
theorem dX5_refusedPlace_4 : decode cX5_refusedPlace 4 = .ok (.ifCond .ne 5, 3) := by decide +kernel
theorem dX5_refusedPlace_7 : decode cX5_refusedPlace 7 = .ok (.iconst (-1), 1) := by decide +kernel
theorem dX5_refusedPlace_8 : decode cX5_refusedPlace 8 = .ok (.ireturn, 1) := by decide +kernel
theorem dX5_refusedPlace_9 : decode cX5_refusedPlace 9 = .ok (.aload_n 0, 1) := by decide +kernel
theorem dX5_refusedPlace_10 : decode cX5_refusedPlace 10 = .ok (.getfield 14, 3) := by decide +kernel
theorem dX5_refusedPlace_13 : decode cX5_refusedPlace 13 = .ok (.iload_n 1, 1) := by decide +kernel
theorem dX5_refusedPlace_14 : decode cX5_refusedPlace 14 = .ok (.iaload, 1) := by decide +kernel
theorem dX5_refusedPlace_15 : decode cX5_refusedPlace 15 = .ok (.ifCond .ge 9, 3) := by decide +kernel
theorem dX5_refusedPlace_18 : decode cX5_refusedPlace 18 = .ok (.aload_n 0, 1) := by decide +kernel
theorem dX5_refusedPlace_19 : decode cX5_refusedPlace 19 = .ok (.iconst 1, 1) := by decide +kernel
theorem dX5_refusedPlace_20 : decode cX5_refusedPlace 20 = .ok (.invokevirtual 99, 3) := by decide +kernel
theorem dX5_refusedPlace_23 : decode cX5_refusedPlace 23 = .ok (.ireturn, 1) := by decide +kernel
theorem dX5_refusedPlace_24 : decode cX5_refusedPlace 24 = .ok (.iload_n 2, 1) := by decide +kernel
theorem dX5_refusedPlace_25 : decode cX5_refusedPlace 25 = .ok (.ifCond .lt 13, 3) := by decide +kernel
theorem dX5_refusedPlace_28 : decode cX5_refusedPlace 28 = .ok (.iload_n 2, 1) := by decide +kernel
theorem dX5_refusedPlace_29 : decode cX5_refusedPlace 29 = .ok (.aload_n 0, 1) := by decide +kernel
theorem dX5_refusedPlace_30 : decode cX5_refusedPlace 30 = .ok (.getfield 14, 3) := by decide +kernel
theorem dX5_refusedPlace_33 : decode cX5_refusedPlace 33 = .ok (.iload_n 1, 1) := by decide +kernel
theorem dX5_refusedPlace_34 : decode cX5_refusedPlace 34 = .ok (.iaload, 1) := by decide +kernel
theorem dX5_refusedPlace_35 : decode cX5_refusedPlace 35 = .ok (.if_icmp .lt 9, 3) := by decide +kernel
theorem dX5_refusedPlace_38 : decode cX5_refusedPlace 38 = .ok (.aload_n 0, 1) := by decide +kernel
theorem dX5_refusedPlace_39 : decode cX5_refusedPlace 39 = .ok (.iconst 2, 1) := by decide +kernel
theorem dX5_refusedPlace_40 : decode cX5_refusedPlace 40 = .ok (.invokevirtual 99, 3) := by decide +kernel
theorem dX5_refusedPlace_43 : decode cX5_refusedPlace 43 = .ok (.ireturn, 1) := by decide +kernel
theorem dX5_refusedPlace_44 : decode cX5_refusedPlace 44 = .ok (.iconst 0, 1) := by decide +kernel
theorem dX5_refusedPlace_45 : decode cX5_refusedPlace 45 = .ok (.ireturn, 1) := by decide +kernel
def j_X5_refusedPlace (F : Nat) (a1 : Int32) (a2 : Int32) (st : sw_St) : Option (Int32 × sw_St) :=
bo (j_X5_isRow F a1 st) (fun (r2 : Int32) =>
(if r2 = 0 then (
 some (((-1) : Int32), st))
else (
 bnd a1 6 (
 (if 0 ≤ (st.1 8 (a1 : Int32).toNatClampNeg) then (
  jn (
    bd (j_X5_found F 2 st) (fun (r9 : Int32) (s10 : sw_St) =>
    some ((r9 : Int32), s10))) (fun k6 =>
   (if a2 < 0 then (
    k6)
   else (
    bnd a1 6 (
    (if a2 < (st.1 8 (a1 : Int32).toNatClampNeg) then (
     some ((0 : Int32), st))
    else (
     k6)))))))
 else (
  bd (j_X5_found F 1 st) (fun (r15 : Int32) (s16 : sw_St) =>
  some ((r15 : Int32), s16))))))))
set_option maxHeartbeats 4000000 in
set_option maxRecDepth 100000 in
theorem c_X5_refusedPlace (F : Nat) (a1 : Int32) (a2 : Int32) (st : sw_St) {r : Int32} {st1 : sw_St} (h : j_X5_refusedPlace F a1 a2 st = some (r, st1)) : sw_CI yX5_refusedPlace (.code yX5_refusedPlace cX5_refusedPlace 3 (some .int)) 2 (fun g => [.ref (g.1 0), .int a1, .int a2]) st r st1 := by
  refine sw_entI RX5 (fun g => [(0, .ref (g.1 0)), (1, .int a1), (2, .int a2)]) (by decide) rfl (fun _ => Nat.le_of_ble_eq_true rfl) (fun _ => rfl) ?_
  intro p l e s m args below meth c g X hr hlk
  unfold j_X5_refusedPlace at h
  refine sw_iload_n X 1 rfl rfl dX5_refusedPlace_0 ?_
  obtain ⟨r2, c1, h⟩ := bo_E h
  refine sw_callSI X (As := (fun g => [.int a1])) ws_X5_isRow (by omega) (c_X5_isRow F a1 st c1) rfl rfl (Nat.le_of_ble_eq_true rfl) wm_X5_95 dX5_refusedPlace_1 ?_
  refine sw_if_ne X 9 (by decide) dX5_refusedPlace_4 (fun q3 => ?_) (fun q3 => ?_)
  · have h := ite_F h q3
    refine sw_aload_n X 0 rfl rfl dX5_refusedPlace_9 ?_
    refine sw_getR X sw_cl5 (show sw_kd 0 = 5 from rfl) (k := 1) rfl (by decide) (o1 := 8) rfl wf_X5_14 dX5_refusedPlace_10 ?_
    refine sw_iload_n X 1 rfl rfl dX5_refusedPlace_13 ?_
    obtain ⟨q4, h⟩ := bnd_E h
    refine sw_iald X (show sw_kd 8 = 8 from rfl) (n := 6) rfl q4 dX5_refusedPlace_14 ?_
    refine sw_if_ge X 24 (by decide) dX5_refusedPlace_15 (fun q5 => ?_) (fun q5 => ?_)
    · have h := ite_T h q5
      refine sw_iload_n X 2 rfl rfl dX5_refusedPlace_24 ?_
      refine jn0_E (sw_V p l e 2 s m args below meth c g (sw_A g s.heap.size) (sw_QI below g args s r st1) 3 38 [(0, .ref (g.1 0))] [] st) h (fun h => ?_) (fun k6 J7 h => ?_)
      · refine sw_aload_n X 0 rfl rfl dX5_refusedPlace_38 ?_
        refine sw_iconst X (v := 2) (by decide) dX5_refusedPlace_39 ?_
        obtain ⟨r9, s10, c8, h⟩ := bd_E h
        refine sw_callVI X (o := 0) (As := (fun g => [.int 2])) sw_cl5 (show sw_kd 0 = 5 from rfl) ws_X5_found (by omega) (c_X5_found F 2 st c8) rfl rfl (Nat.le_of_ble_eq_true rfl) wm_X5_99 dX5_refusedPlace_40 ?_
        exact sw_iret X hr hlk dX5_refusedPlace_43 h
      · refine sw_if_lt X 38 (by decide) dX5_refusedPlace_25 (fun q11 => ?_) (fun q11 => ?_)
        · have h := ite_T h q11
          refine sw_sub [0] rfl ?_
          exact J7  h
        · have h := ite_F h q11
          refine sw_iload_n X 2 rfl rfl dX5_refusedPlace_28 ?_
          refine sw_aload_n X 0 rfl rfl dX5_refusedPlace_29 ?_
          refine sw_getR X sw_cl5 (show sw_kd 0 = 5 from rfl) (k := 1) rfl (by decide) (o1 := 8) rfl wf_X5_14 dX5_refusedPlace_30 ?_
          refine sw_iload_n X 1 rfl rfl dX5_refusedPlace_33 ?_
          obtain ⟨q12, h⟩ := bnd_E h
          refine sw_iald X (show sw_kd 8 = 8 from rfl) (n := 6) rfl q12 dX5_refusedPlace_34 ?_
          refine sw_icmp_lt X 44 (by decide) dX5_refusedPlace_35 (fun q13 => ?_) (fun q13 => ?_)
          · have h := ite_T h q13
            refine sw_iconst X (v := 0) (by decide) dX5_refusedPlace_44 ?_
            exact sw_iret X hr hlk dX5_refusedPlace_45 h
          · have h := ite_F h q13
            refine sw_sub [0] rfl ?_
            exact J7  h
    · have h := ite_F h q5
      refine sw_aload_n X 0 rfl rfl dX5_refusedPlace_18 ?_
      refine sw_iconst X (v := 1) (by decide) dX5_refusedPlace_19 ?_
      obtain ⟨r15, s16, c14, h⟩ := bd_E h
      refine sw_callVI X (o := 0) (As := (fun g => [.int 1])) sw_cl5 (show sw_kd 0 = 5 from rfl) ws_X5_found (by omega) (c_X5_found F 1 st c14) rfl rfl (Nat.le_of_ble_eq_true rfl) wm_X5_99 dX5_refusedPlace_20 ?_
      exact sw_iret X hr hlk dX5_refusedPlace_23 h
  · have h := ite_T h q3
    refine sw_iconst X (v := (-1)) (by decide) dX5_refusedPlace_7 ?_
    exact sw_iret X hr hlk dX5_refusedPlace_8 h
theorem dX5_lay_0 : decode cX5_lay 0 = .ok (.aload_n 0, 1) := by decide +kernel
theorem dX5_lay_1 : decode cX5_lay 1 = .ok (.iload_n 1, 1) := by decide +kernel
theorem dX5_lay_2 : decode cX5_lay 2 = .ok (.iload_n 2, 1) := by decide +kernel
theorem dX5_lay_3 : decode cX5_lay 3 = .ok (.invokevirtual 103, 3) := by decide +kernel
theorem dX5_lay_6 : decode cX5_lay 6 = .ok (.istore 4, 2) := by decide +kernel
theorem dX5_lay_8 : decode cX5_lay 8 = .ok (.iload 4, 2) := by decide +kernel
theorem dX5_lay_10 : decode cX5_lay 10 = .ok (.ifCond .eq 6, 3) := by decide +kernel
theorem dX5_lay_13 : decode cX5_lay 13 = .ok (.iload 4, 2) := by decide +kernel
theorem dX5_lay_15 : decode cX5_lay 15 = .ok (.ireturn, 1) := by decide +kernel
theorem dX5_lay_16 : decode cX5_lay 16 = .ok (.aload_n 0, 1) := by decide +kernel
theorem dX5_lay_17 : decode cX5_lay 17 = .ok (.aload_n 0, 1) := by decide +kernel
theorem dX5_lay_18 : decode cX5_lay 18 = .ok (.getfield 11, 3) := by decide +kernel
theorem dX5_lay_21 : decode cX5_lay 21 = .ok (.iload_n 1, 1) := by decide +kernel
theorem dX5_lay_22 : decode cX5_lay 22 = .ok (.aaload, 1) := by decide +kernel
theorem dX5_lay_23 : decode cX5_lay 23 = .ok (.iload_n 2, 1) := by decide +kernel
theorem dX5_lay_24 : decode cX5_lay 24 = .ok (.iaload, 1) := by decide +kernel
theorem dX5_lay_25 : decode cX5_lay 25 = .ok (.putfield 79, 3) := by decide +kernel
theorem dX5_lay_28 : decode cX5_lay 28 = .ok (.aload_n 0, 1) := by decide +kernel
theorem dX5_lay_29 : decode cX5_lay 29 = .ok (.getfield 11, 3) := by decide +kernel
theorem dX5_lay_32 : decode cX5_lay 32 = .ok (.iload_n 1, 1) := by decide +kernel
theorem dX5_lay_33 : decode cX5_lay 33 = .ok (.aaload, 1) := by decide +kernel
theorem dX5_lay_34 : decode cX5_lay 34 = .ok (.iload_n 2, 1) := by decide +kernel
theorem dX5_lay_35 : decode cX5_lay 35 = .ok (.iload_n 3, 1) := by decide +kernel
theorem dX5_lay_36 : decode cX5_lay 36 = .ok (.iastore, 1) := by decide +kernel
theorem dX5_lay_37 : decode cX5_lay 37 = .ok (.iconst 1, 1) := by decide +kernel
theorem dX5_lay_38 : decode cX5_lay 38 = .ok (.ireturn, 1) := by decide +kernel
def j_X5_lay (F : Nat) (a1 : Int32) (a2 : Int32) (a3 : Int32) (st : sw_St) : Option (Int32 × sw_St) :=
bd (j_X5_refusedPlace F a1 a2 st) (fun (r2 : Int32) (s3 : sw_St) =>
(if r2 = 0 then (
 bnd a1 6 (
 bnd a2 40 (
 nm (sw_setC s3 0 14 (s3.1 (2 + (a1 : Int32).toNatClampNeg) (a2 : Int32).toNatClampNeg)) (fun (s7 : sw_St) =>
 bnd a1 6 (
 bnd a2 40 (
 nm (sw_setC s7 (2 + (a1 : Int32).toNatClampNeg) (a2 : Int32).toNatClampNeg a3) (fun (s10 : sw_St) =>
 some ((1 : Int32), s10))))))))
else (
 some ((r2 : Int32), s3))))
set_option maxHeartbeats 4000000 in
set_option maxRecDepth 100000 in
theorem c_X5_lay (F : Nat) (a1 : Int32) (a2 : Int32) (a3 : Int32) (st : sw_St) {r : Int32} {st1 : sw_St} (h : j_X5_lay F a1 a2 a3 st = some (r, st1)) : sw_CI yX5_lay (.code yX5_lay cX5_lay 5 (some .int)) 3 (fun g => [.ref (g.1 0), .int a1, .int a2, .int a3]) st r st1 := by
  refine sw_entI RX5 (fun g => [(0, .ref (g.1 0)), (1, .int a1), (2, .int a2), (3, .int a3)]) (by decide) rfl (fun _ => Nat.le_of_ble_eq_true rfl) (fun _ => rfl) ?_
  intro p l e s m args below meth c g X hr hlk
  unfold j_X5_lay at h
  refine sw_aload_n X 0 rfl rfl dX5_lay_0 ?_
  refine sw_iload_n X 1 rfl rfl dX5_lay_1 ?_
  refine sw_iload_n X 2 rfl rfl dX5_lay_2 ?_
  obtain ⟨r2, s3, c1, h⟩ := bd_E h
  refine sw_callVI X (o := 0) (As := (fun g => [.int a1, .int a2])) sw_cl5 (show sw_kd 0 = 5 from rfl) ws_X5_refusedPlace (by omega) (c_X5_refusedPlace F a1 a2 st c1) rfl rfl (Nat.le_of_ble_eq_true rfl) wm_X5_103 dX5_lay_3 ?_
  refine sw_istore X [(4, .int r2), (0, .ref (g.1 0)), (1, .int a1), (2, .int a2), (3, .int a3)] (by decide) rfl dX5_lay_6 ?_
  refine sw_iload X 0 rfl dX5_lay_8 ?_
  refine sw_if_eq X 16 (by decide) dX5_lay_10 (fun q4 => ?_) (fun q4 => ?_)
  · have h := ite_T h q4
    refine sw_aload_n X 1 rfl rfl dX5_lay_16 ?_
    refine sw_aload_n X 1 rfl rfl dX5_lay_17 ?_
    refine sw_getR X sw_cl5 (show sw_kd 0 = 5 from rfl) (k := 0) rfl (by decide) (o1 := 1) rfl wf_X5_11 dX5_lay_18 ?_
    refine sw_iload_n X 2 rfl rfl dX5_lay_21 ?_
    obtain ⟨q5, h⟩ := bnd_E h
    refine sw_aaldI X (show sw_kd 1 = 12 from rfl) (n := 6) rfl q5 (a1 := 2 + (a1 : Int32).toNatClampNeg) rfl dX5_lay_22 ?_
    refine sw_iload_n X 3 rfl rfl dX5_lay_23 ?_
    obtain ⟨q6, h⟩ := bnd_E h
    refine sw_iald X (show sw_kd (2 + (a1 : Int32).toNatClampNeg) = 8 from (sw_rk q5)) (n := 40) (sw_rn q5) q6 dX5_lay_24 ?_
    refine sw_putI X sw_cl5 (show sw_kd 0 = 5 from rfl) (k := 14) rfl (by decide) rfl rfl wf_X5_79 dX5_lay_25 (fun s7 es7 => ?_)
    have h := nm_E h es7
    refine sw_aload_n X 1 rfl rfl dX5_lay_28 ?_
    refine sw_getR X sw_cl5 (show sw_kd 0 = 5 from rfl) (k := 0) rfl (by decide) (o1 := 1) rfl wf_X5_11 dX5_lay_29 ?_
    refine sw_iload_n X 2 rfl rfl dX5_lay_32 ?_
    obtain ⟨q8, h⟩ := bnd_E h
    refine sw_aaldI X (show sw_kd 1 = 12 from rfl) (n := 6) rfl q8 (a1 := 2 + (a1 : Int32).toNatClampNeg) rfl dX5_lay_33 ?_
    refine sw_iload_n X 3 rfl rfl dX5_lay_34 ?_
    refine sw_iload_n X 4 rfl rfl dX5_lay_35 ?_
    obtain ⟨q9, h⟩ := bnd_E h
    refine sw_iast X (show sw_kd (2 + (a1 : Int32).toNatClampNeg) = 8 from (sw_rk q8)) (n := 40) (sw_rn q8) q9 dX5_lay_36 (fun s10 es10 => ?_)
    have h := nm_E h es10
    refine sw_iconst X (v := 1) (by decide) dX5_lay_37 ?_
    exact sw_iret X hr hlk dX5_lay_38 h
  · have h := ite_F h q4
    refine sw_iload X 0 rfl dX5_lay_13 ?_
    exact sw_iret X hr hlk dX5_lay_15 h
theorem dX5_at_0 : decode cX5_at 0 = .ok (.aload_n 0, 1) := by decide +kernel
theorem dX5_at_1 : decode cX5_at 1 = .ok (.iload_n 1, 1) := by decide +kernel
theorem dX5_at_2 : decode cX5_at 2 = .ok (.iload_n 2, 1) := by decide +kernel
theorem dX5_at_3 : decode cX5_at 3 = .ok (.invokevirtual 103, 3) := by decide +kernel
theorem dX5_at_6 : decode cX5_at 6 = .ok (.istore_n 3, 1) := by decide +kernel
theorem dX5_at_7 : decode cX5_at 7 = .ok (.iload_n 3, 1) := by decide +kernel
theorem dX5_at_8 : decode cX5_at 8 = .ok (.ifCond .eq 5, 3) := by decide +kernel
theorem dX5_at_11 : decode cX5_at 11 = .ok (.iload_n 3, 1) := by decide +kernel
theorem dX5_at_12 : decode cX5_at 12 = .ok (.ireturn, 1) := by decide +kernel
theorem dX5_at_13 : decode cX5_at 13 = .ok (.aload_n 0, 1) := by decide +kernel
theorem dX5_at_14 : decode cX5_at 14 = .ok (.aload_n 0, 1) := by decide +kernel
theorem dX5_at_15 : decode cX5_at 15 = .ok (.getfield 11, 3) := by decide +kernel
theorem dX5_at_18 : decode cX5_at 18 = .ok (.iload_n 1, 1) := by decide +kernel
theorem dX5_at_19 : decode cX5_at 19 = .ok (.aaload, 1) := by decide +kernel
theorem dX5_at_20 : decode cX5_at 20 = .ok (.iload_n 2, 1) := by decide +kernel
theorem dX5_at_21 : decode cX5_at 21 = .ok (.iaload, 1) := by decide +kernel
theorem dX5_at_22 : decode cX5_at 22 = .ok (.putfield 79, 3) := by decide +kernel
theorem dX5_at_25 : decode cX5_at 25 = .ok (.iconst 1, 1) := by decide +kernel
theorem dX5_at_26 : decode cX5_at 26 = .ok (.ireturn, 1) := by decide +kernel
def j_X5_at (F : Nat) (a1 : Int32) (a2 : Int32) (st : sw_St) : Option (Int32 × sw_St) :=
bd (j_X5_refusedPlace F a1 a2 st) (fun (r2 : Int32) (s3 : sw_St) =>
(if r2 = 0 then (
 bnd a1 6 (
 bnd a2 40 (
 nm (sw_setC s3 0 14 (s3.1 (2 + (a1 : Int32).toNatClampNeg) (a2 : Int32).toNatClampNeg)) (fun (s7 : sw_St) =>
 some ((1 : Int32), s7)))))
else (
 some ((r2 : Int32), s3))))
set_option maxHeartbeats 4000000 in
set_option maxRecDepth 100000 in
theorem c_X5_at (F : Nat) (a1 : Int32) (a2 : Int32) (st : sw_St) {r : Int32} {st1 : sw_St} (h : j_X5_at F a1 a2 st = some (r, st1)) : sw_CI yX5_at (.code yX5_at cX5_at 4 (some .int)) 3 (fun g => [.ref (g.1 0), .int a1, .int a2]) st r st1 := by
  refine sw_entI RX5 (fun g => [(0, .ref (g.1 0)), (1, .int a1), (2, .int a2)]) (by decide) rfl (fun _ => Nat.le_of_ble_eq_true rfl) (fun _ => rfl) ?_
  intro p l e s m args below meth c g X hr hlk
  unfold j_X5_at at h
  refine sw_aload_n X 0 rfl rfl dX5_at_0 ?_
  refine sw_iload_n X 1 rfl rfl dX5_at_1 ?_
  refine sw_iload_n X 2 rfl rfl dX5_at_2 ?_
  obtain ⟨r2, s3, c1, h⟩ := bd_E h
  refine sw_callVI X (o := 0) (As := (fun g => [.int a1, .int a2])) sw_cl5 (show sw_kd 0 = 5 from rfl) ws_X5_refusedPlace (by omega) (c_X5_refusedPlace F a1 a2 st c1) rfl rfl (Nat.le_of_ble_eq_true rfl) wm_X5_103 dX5_at_3 ?_
  refine sw_istore_n X [(3, .int r2), (0, .ref (g.1 0)), (1, .int a1), (2, .int a2)] rfl (by decide) rfl dX5_at_6 ?_
  refine sw_iload_n X 0 rfl rfl dX5_at_7 ?_
  refine sw_if_eq X 13 (by decide) dX5_at_8 (fun q4 => ?_) (fun q4 => ?_)
  · have h := ite_T h q4
    refine sw_aload_n X 1 rfl rfl dX5_at_13 ?_
    refine sw_aload_n X 1 rfl rfl dX5_at_14 ?_
    refine sw_getR X sw_cl5 (show sw_kd 0 = 5 from rfl) (k := 0) rfl (by decide) (o1 := 1) rfl wf_X5_11 dX5_at_15 ?_
    refine sw_iload_n X 2 rfl rfl dX5_at_18 ?_
    obtain ⟨q5, h⟩ := bnd_E h
    refine sw_aaldI X (show sw_kd 1 = 12 from rfl) (n := 6) rfl q5 (a1 := 2 + (a1 : Int32).toNatClampNeg) rfl dX5_at_19 ?_
    refine sw_iload_n X 3 rfl rfl dX5_at_20 ?_
    obtain ⟨q6, h⟩ := bnd_E h
    refine sw_iald X (show sw_kd (2 + (a1 : Int32).toNatClampNeg) = 8 from (sw_rk q5)) (n := 40) (sw_rn q5) q6 dX5_at_21 ?_
    refine sw_putI X sw_cl5 (show sw_kd 0 = 5 from rfl) (k := 14) rfl (by decide) rfl rfl wf_X5_79 dX5_at_22 (fun s7 es7 => ?_)
    have h := nm_E h es7
    refine sw_iconst X (v := 1) (by decide) dX5_at_25 ?_
    exact sw_iret X hr hlk dX5_at_26 h
  · have h := ite_F h q4
    refine sw_iload_n X 0 rfl rfl dX5_at_11 ?_
    exact sw_iret X hr hlk dX5_at_12 h
